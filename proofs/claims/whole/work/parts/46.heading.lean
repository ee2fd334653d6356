section KQ2
variable {p : Program} {l : Launch} {e : Env} {R : Room} {s : State} {m : MethodId} {args : Array Value} {below : List Frame} {meth : Method} {c : Code} {H : Heap} {locs : List Loc} {cells slots : Nat} {Q : State → Prop}
variable {cc : ByteArray} {pc : Nat} {ls : Array Slot} {rest : List Value}
theorem k_aloadQ (hexec : p.tables.exec = Jvm.exec) (hb : c.code = cc) {i : Nat} {x : Option Nat} (hdg : decode cc pc = .ok (.aload i, 2)) (hl : ls[i]? = some (.val (va_rf x)))
    (kk : W p l e R s m args below meth c H locs cells slots Q (F0 m (pc + 2) ls (va_rf x :: rest))) : W p l e R s m args below meth c H locs cells slots Q (F0 m pc ls (rest)) := by
  cases x with
  | none => exact lv_aloadN hexec hb hdg hl kk
  | some a => exact lv_aload hexec hb hdg hl kk
theorem k_astoreQ (hexec : p.tables.exec = Jvm.exec) (hb : c.code = cc) {i nL : Nat} {x : Option Nat} {lv lv' : List (Nat × Value)} (hdg : decode cc pc = .ok (.astore i, 2)) (h : lv_has ls nL lv) (hn : i < nL) (hl : (i, va_rf x) :: lv.filter (fun q => !(q.1 == i) && !(q.1 + 1 == i && q.2.category == 2)) = lv')
    (kk : ∀ ls' : Array Slot, lv_has ls' nL lv' → W p l e R s m args below meth c H locs cells slots Q (F0 m (pc + 2) ls' rest)) : W p l e R s m args below meth c H locs cells slots Q (F0 m pc ls (va_rf x :: rest)) := by
  cases x with
  | none => exact lv_astoreN hexec hb hdg h hn hl kk
  | some a => exact lv_astore hexec hb hdg h hn hl kk
end KQ2
/-- what a parent's number means -/
def kPt (i : Int32) (n : Nat) (o : Option Nat) : Prop := (o = none ∧ i = -1) ∨ ∃ j, j < n ∧ i = nI j ∧ o = some j
def kPk (i : Int32) (n : Nat) : Bool := bif decide (i = (-1)) then true else kNum i n
def kNq (rt : Nat → Option Nat) (i : Int32) : Bool := bif decide (i = (-1)) then true else !kLe rt i
theorem kNI_m1 {j : Nat} (h : j < 2 ^ 31) : decide (nI j = (-1)) = false := by
  refine decide_eq_false (fun e => ?_)
  have h1 : (nI j).toInt = (-1 : Int32).toInt := by rw [e]
  rw [nI_toInt h] at h1
  have h2 : (-1 : Int32).toInt = -1 := by decide
  omega
theorem kPt_lt {i : Int32} {n : Nat} {o : Option Nat} (h : kPt i n o) : ∀ k, o = some k → k < n := by
  intro k hk
  rcases h with ⟨h1, -⟩ | ⟨j, h1, -, h2⟩
  · rw [h1] at hk; cases hk
  · rw [h2] at hk; cases hk; exact h1
theorem kNq_at {rt : Nat → Option Nat} {i : Int32} {n : Nat} {o : Option Nat} (h : kPt i n o) (hn : n < 2 ^ 31) : kNq rt i = kNl rt o := by
  rcases h with ⟨rfl, rfl⟩ | ⟨j, h1, rfl, rfl⟩
  · rfl
  · unfold kNq kNl
    rw [kNI_m1 (by omega), kLe_at rfl (by omega)]
    rfl

set_option maxHeartbeats 4000000 in
set_option maxRecDepth 100000 in
/-- parentAt -/
theorem K_X3_parentAt (l : Launch) (hfl : l.stackTraces = false) (D : va_G) (cI cJ cZ cO : ClassId) (z mi : Nat) (ws : va_W) (ks : Nat) (hs : Nat) (hd : Nat) (lr : Nat) (li : Nat) (hpr : Nat) (kp : Nat) (lim : Int32) (ret : Int32) (clm : Int64) (fP : Nat → Int32) (ni : Nat) (ia : Nat → Nat) (pi : Nat → Nat) (par : Nat → Option Nat) (rt : Nat → Option Nat) (ra : Nat → Nat) (wa : Nat → Int32) (me : Nat → Int32) (va : Nat → Int32) (dn : Nat → Int32) (nr : Nat) (pr : Nat → Nat) (fA : Nat → Int32) (kli : Nat) (kei : Nat) (edi : Nat) (leni : Nat) (mci : Int32) (gi : Nat → Option Nat) (klr : Nat) (ker : Nat) (edr : Nat) (lenr : Nat) (mcr : Int32) (gr : Nat → Option Nat) (hSh : kSh cI cO z ws ks hs hd lr li hpr kp lim ret clm fP ni ia pi par rt ra wa me va dn nr pr fA kli kei edi leni mci gi klr ker edr lenr mcr gr) (i9 : Int32) : kM l D (kTy cI cJ cZ cO) z mi yX3_parentAt wsX3_parentAt ({ frames := 7, cells := 1, slots := 6, locals := 141 } : Room) [.ref hs, .int i9] (ws) (fun v u => (∃ o : Option Nat, kPt i9 ni o ∧ v = some (va_rf (o.map ia))) ∧ u = ws ∧ kPk i9 ni = true) (fun E u => u = ws ∧ (E = kIOB ∧ (kPk i9 ni) = false)) := by
  refine kM.of hfl (cc := cX3_parentAt) (maxL := 2) (ret := (some (.object "TakeoffSheet$Item"))) (by decide) rfl (Nat.le_of_ble_eq_true rfl) ?_
  intro p e s m args below meth c A ls hC hr hmn hG hl
  have hx := hC.x
  have hb := hC.b
  have hl : lv_has ls 2 [(0, .ref hs), (1, .int i9)] := hl
  have hn30 : ni ≤ 30 ∧ nr ≤ 12 := hSh.2.2.1
  refine lv_iload_n hx hb dX3_parentAt_0 rfl (lv_at hl 1 rfl) ?_
  refine lv_iconst (v := (-1)) hx hb dX3_parentAt_1 (by decide) ?_
  refine k_icmp_ne (tgt := 9) hx hb dX3_parentAt_2 (by decide) (fun c_1 => ?_) (fun c_1 => ?_)
  · refine lv_aload_n hx hb dX3_parentAt_9 rfl (lv_at hl 0 rfl) ?_
    refine lv_iload_n hx hb dX3_parentAt_10 rfl (lv_at hl 1 rfl) ?_
    refine k_callV (nn := 1) (C := RX3) hC hG ks hSh.1 (ci := 4) rfl (K_X3_itemAt l hfl D cI cJ cZ cO z mi ws ks hs hd lr li hpr kp lim ret clm fP ni ia pi par rt ra wa me va dn nr pr fA kli kei edi leni mci gi klr ker edr lenr mcr gr hSh i9) gX3_parentAt_X3_itemAt rfl rfl (by decide +kernel) ⟨(Nat.le_of_ble_eq_true rfl), (Nat.le_of_ble_eq_true rfl)⟩ hl.1 rfl (Nat.le_of_ble_eq_true rfl) dX3_parentAt_11 ⟨(Nat.le_of_ble_eq_true rfl), (Nat.le_of_ble_eq_true rfl)⟩ (fun E9 ce9 q9 u9 H9 locs9 hp9 hG9 h91 h92 h93 => k_out hC hG9 h91 h92 h93 (by obtain ⟨rfl, rfl, h99⟩ := hp9; exact ⟨rfl, rfl, by unfold kPk; rw [c_1, h99]; rfl⟩) (Nat.le_of_ble_eq_true rfl) (Nat.le_of_ble_eq_true rfl)) (fun v9 u9 H locs hp hG => ?_)
    obtain ⟨⟨j2, hj3, hi4, rfl⟩, hu9⟩ := hp
    rw [hu9] at hG
    have hk5 : kNum i9 ni = true := by rw [hi4]; exact kNum_of hj3 (by omega)
    refine W.widen (k := 1) (n := 6) (Nat.le_of_ble_eq_true rfl) (Nat.le_of_ble_eq_true rfl) ?_
    refine W.eq (g2 := F0 m 14 ls [.ref (ia j2)]) rfl ?_
    exact k_reta hC hr (Or.inl ⟨_, rfl⟩) hG (v := (some (ia j2))) ⟨⟨some j2, Or.inr ⟨j2, hj3, hi4, rfl⟩, rfl⟩, rfl, by unfold kPk; rw [c_1, hk5]; rfl⟩ (Nat.le_of_ble_eq_true rfl) (Nat.le_of_ble_eq_true rfl) dX3_parentAt_14
  · refine k_aconst_null hx hb dX3_parentAt_5 ?_
    refine lv_goto (tgt := 14) hx hb dX3_parentAt_6 (by decide) ?_
    exact k_reta hC hr (Or.inl ⟨_, rfl⟩) hG (v := none) ⟨⟨none, Or.inl ⟨rfl, of_decide_eq_true c_1⟩, rfl⟩, rfl, by unfold kPk; rw [c_1]; rfl⟩ (Nat.le_of_ble_eq_true rfl) (Nat.le_of_ble_eq_true rfl) dX3_parentAt_14

set_option maxHeartbeats 4000000 in
set_option maxRecDepth 100000 in
/-- heading -/
theorem K_X3_heading (l : Launch) (hfl : l.stackTraces = false) (D : va_G) (cI cJ cZ cO : ClassId) (z mi : Nat) (ws : va_W) (ks : Nat) (hs : Nat) (hd : Nat) (lr : Nat) (li : Nat) (hpr : Nat) (kp : Nat) (lim : Int32) (ret : Int32) (clm : Int64) (fP : Nat → Int32) (ni : Nat) (ia : Nat → Nat) (pi : Nat → Nat) (par : Nat → Option Nat) (rt : Nat → Option Nat) (ra : Nat → Nat) (wa : Nat → Int32) (me : Nat → Int32) (va : Nat → Int32) (dn : Nat → Int32) (nr : Nat) (pr : Nat → Nat) (fA : Nat → Int32) (kli : Nat) (kei : Nat) (edi : Nat) (leni : Nat) (mci : Int32) (gi : Nat → Option Nat) (klr : Nat) (ker : Nat) (edr : Nat) (lenr : Nat) (mcr : Int32) (gr : Nat → Option Nat) (hSh : kSh cI cO z ws ks hs hd lr li hpr kp lim ret clm fP ni ia pi par rt ra wa me va dn nr pr fA kli kei edi leni mci gi klr ker edr lenr mcr gr) (i9 : Int32) : kM l D (kTy cI cJ cZ cO) z mi yX3_heading wsX3_heading ({ frames := 8, cells := 5, slots := 86, locals := 323 } : Room) [.ref hs, .int i9] (ws) (fun v u => (∃ o : Option Nat, kPt i9 ni o ∧ v = some (.int (nI ni)) ∧ kNewI cI cO z ws ks hs hd lr li hpr kp lim ret clm fP ni ia pi par rt ra wa me va dn nr pr fA kli kei edi leni mci gi klr ker edr lenr mcr gr o none 0 u) ∧ (kPk i9 ni) = true ∧ (kNq rt i9) = true ∧ (decide ((nI ni) < 30)) = true) (fun E u => u = ws ∧ ((E = kIOB ∧ (kPk i9 ni) = false) ∨ ((E = kISE ∧ (kPk i9 ni) = true ∧ (kNq rt i9) = false) ∨ (E = kISE ∧ (kPk i9 ni) = true ∧ (kNq rt i9) = true ∧ (decide ((nI ni) < 30)) = false)))) := by
  refine kM.of hfl (cc := cX3_heading) (maxL := 2) (ret := (some .int)) (by decide) rfl (Nat.le_of_ble_eq_true rfl) ?_
  intro p e s m args below meth c A ls hC hr hmn hG hl
  have hx := hC.x
  have hb := hC.b
  have hl : lv_has ls 2 [(0, .ref hs), (1, .int i9)] := hl
  have hn30 : ni ≤ 30 ∧ nr ≤ 12 := hSh.2.2.1
  refine lv_aload_n hx hb dX3_heading_0 rfl (lv_at hl 0 rfl) ?_
  refine lv_aload_n hx hb dX3_heading_1 rfl (lv_at hl 0 rfl) ?_
  refine lv_iload_n hx hb dX3_heading_2 rfl (lv_at hl 1 rfl) ?_
  refine k_callV (nn := 1) (C := RX3) hC hG ks hSh.1 (ci := 4) rfl (K_X3_parentAt l hfl D cI cJ cZ cO z mi ws ks hs hd lr li hpr kp lim ret clm fP ni ia pi par rt ra wa me va dn nr pr fA kli kei edi leni mci gi klr ker edr lenr mcr gr hSh i9) gX3_heading_X3_parentAt rfl rfl (by decide +kernel) ⟨(Nat.le_of_ble_eq_true rfl), (Nat.le_of_ble_eq_true rfl)⟩ hl.1 rfl (Nat.le_of_ble_eq_true rfl) dX3_heading_3 ⟨(Nat.le_of_ble_eq_true rfl), (Nat.le_of_ble_eq_true rfl)⟩ (fun E9 ce9 q9 u9 H9 locs9 hp9 hG9 h91 h92 h93 => k_out hC hG9 h91 h92 h93 (by obtain ⟨rfl, rfl, h99⟩ := hp9; exact ⟨rfl, Or.inl ⟨rfl, h99⟩⟩) (Nat.le_of_ble_eq_true rfl) (Nat.le_of_ble_eq_true rfl)) (fun v9 u9 H locs hp hG => ?_)
  obtain ⟨⟨o1, ho2, rfl⟩, hu9, hk3⟩ := hp
  rw [hu9] at hG
  refine W.widen (k := 1) (n := 6) (Nat.le_of_ble_eq_true rfl) (Nat.le_of_ble_eq_true rfl) ?_
  refine W.eq (g2 := F0 m 6 ls [va_rf (o1.map ia), .ref hs]) rfl ?_
  refine k_aconst_null hx hb dX3_heading_6 ?_
  refine lv_iconst (v := 0) hx hb dX3_heading_7 (by decide) ?_
  refine k_callV (nn := 3) (C := RX3) hC hG ks hSh.1 (ci := 4) rfl (K_X3_addItem l hfl D cI cJ cZ cO z mi ws ks hs hd lr li hpr kp lim ret clm fP ni ia pi par rt ra wa me va dn nr pr fA kli kei edi leni mci gi klr ker edr lenr mcr gr hSh o1 none (kPt_lt ho2) (fun k hk => by cases hk) 0) gX3_heading_X3_addItem rfl rfl (by decide +kernel) ⟨(Nat.le_of_ble_eq_true rfl), (Nat.le_of_ble_eq_true rfl)⟩ hl.1 rfl (Nat.le_of_ble_eq_true rfl) dX3_heading_8 ⟨(Nat.le_of_ble_eq_true rfl), (Nat.le_of_ble_eq_true rfl)⟩ (fun E9 ce9 q9 u9 H9 locs9 hp9 hG9 h91 h92 h93 => k_out hC hG9 h91 h92 h93 (by (obtain ⟨rfl, h98⟩ := hp9; (rcases h98 with ⟨rfl, h99⟩ | ⟨rfl, h97, h99⟩); (exact ⟨rfl, Or.inr (Or.inl ⟨rfl, hk3, ((kNq_at ho2 (by omega)).trans h99)⟩)⟩); (exact ⟨rfl, Or.inr (Or.inr (⟨rfl, hk3, ((kNq_at ho2 (by omega)).trans h97), h99⟩))⟩))) (Nat.le_of_ble_eq_true rfl) (Nat.le_of_ble_eq_true rfl)) (fun v9 u9 H locs hp hG => ?_)
  obtain ⟨rfl, hnw, hk4, hk5⟩ := hp
  have hk6 : kNq rt i9 = true := (kNq_at ho2 (by omega)).trans hk4
  refine W.widen (k := 5) (n := 86) (Nat.le_of_ble_eq_true rfl) (Nat.le_of_ble_eq_true rfl) ?_
  refine W.eq (g2 := F0 m 11 ls [.int (nI ni)]) rfl ?_
  exact k_reti hC hr hG ⟨⟨o1, ho2, rfl, hnw⟩, hk3, hk6, hk5⟩ (Nat.le_of_ble_eq_true rfl) (Nat.le_of_ble_eq_true rfl) dX3_heading_11

set_option maxHeartbeats 4000000 in
set_option maxRecDepth 100000 in
/-- leaf -/
theorem K_X3_leaf (l : Launch) (hfl : l.stackTraces = false) (D : va_G) (cI cJ cZ cO : ClassId) (z mi : Nat) (ws : va_W) (ks : Nat) (hs : Nat) (hd : Nat) (lr : Nat) (li : Nat) (hpr : Nat) (kp : Nat) (lim : Int32) (ret : Int32) (clm : Int64) (fP : Nat → Int32) (ni : Nat) (ia : Nat → Nat) (pi : Nat → Nat) (par : Nat → Option Nat) (rt : Nat → Option Nat) (ra : Nat → Nat) (wa : Nat → Int32) (me : Nat → Int32) (va : Nat → Int32) (dn : Nat → Int32) (nr : Nat) (pr : Nat → Nat) (fA : Nat → Int32) (kli : Nat) (kei : Nat) (edi : Nat) (leni : Nat) (mci : Int32) (gi : Nat → Option Nat) (klr : Nat) (ker : Nat) (edr : Nat) (lenr : Nat) (mcr : Int32) (gr : Nat → Option Nat) (hSh : kSh cI cO z ws ks hs hd lr li hpr kp lim ret clm fP ni ia pi par rt ra wa me va dn nr pr fA kli kei edi leni mci gi klr ker edr lenr mcr gr) (i9 r9 w9 : Int32) : kM l D (kTy cI cJ cZ cO) z mi yX3_leaf wsX3_leaf ({ frames := 8, cells := 7, slots := 98, locals := 323 } : Room) [.ref hs, .int i9, .int r9, .int w9] (ws) (fun v u => (∃ (o : Option Nat) (q : Nat), kPt i9 ni o ∧ v = some (.int (nI ni)) ∧ q < nr ∧ r9 = nI q ∧ kNewI cI cO z ws ks hs hd lr li hpr kp lim ret clm fP ni ia pi par rt ra wa me va dn nr pr fA kli kei edi leni mci gi klr ker edr lenr mcr gr o (some q) w9 u) ∧ (kPk i9 ni) = true ∧ (kNum r9 nr) = true ∧ (kIn w9 0 50) = true ∧ (kNq rt i9) = true ∧ (decide ((nI ni) < 30)) = true) (fun E u => u = ws ∧ ((E = kIOB ∧ (kPk i9 ni) = false) ∨ ((E = kIOB ∧ (kPk i9 ni) = true ∧ (kNum r9 nr) = false) ∨ ((E = kIAE ∧ (kPk i9 ni) = true ∧ (kNum r9 nr) = true ∧ (kIn w9 0 50) = false) ∨ ((E = kISE ∧ (kPk i9 ni) = true ∧ (kNum r9 nr) = true ∧ (kIn w9 0 50) = true ∧ (kNq rt i9) = false) ∨ (E = kISE ∧ (kPk i9 ni) = true ∧ (kNum r9 nr) = true ∧ (kIn w9 0 50) = true ∧ (kNq rt i9) = true ∧ (decide ((nI ni) < 30)) = false)))))) := by
  refine kM.of hfl (cc := cX3_leaf) (maxL := 6) (ret := (some .int)) (by decide) rfl (Nat.le_of_ble_eq_true rfl) ?_
  intro p e s m args below meth c A ls hC hr hmn hG hl
  have hx := hC.x
  have hb := hC.b
  have hl : lv_has ls 6 [(0, .ref hs), (1, .int i9), (2, .int r9), (3, .int w9)] := hl
  have hn30 : ni ≤ 30 ∧ nr ≤ 12 := hSh.2.2.1
  refine lv_aload_n hx hb dX3_leaf_0 rfl (lv_at hl 0 rfl) ?_
  refine lv_iload_n hx hb dX3_leaf_1 rfl (lv_at hl 1 rfl) ?_
  refine k_callV (nn := 1) (C := RX3) hC hG ks hSh.1 (ci := 4) rfl (K_X3_parentAt l hfl D cI cJ cZ cO z mi ws ks hs hd lr li hpr kp lim ret clm fP ni ia pi par rt ra wa me va dn nr pr fA kli kei edi leni mci gi klr ker edr lenr mcr gr hSh i9) gX3_leaf_X3_parentAt rfl rfl (by decide +kernel) ⟨(Nat.le_of_ble_eq_true rfl), (Nat.le_of_ble_eq_true rfl)⟩ hl.1 rfl (Nat.le_of_ble_eq_true rfl) dX3_leaf_2 ⟨(Nat.le_of_ble_eq_true rfl), (Nat.le_of_ble_eq_true rfl)⟩ (fun E9 ce9 q9 u9 H9 locs9 hp9 hG9 h91 h92 h93 => k_out hC hG9 h91 h92 h93 (by obtain ⟨rfl, rfl, h99⟩ := hp9; exact ⟨rfl, Or.inl ⟨rfl, h99⟩⟩) (Nat.le_of_ble_eq_true rfl) (Nat.le_of_ble_eq_true rfl)) (fun v9 u9 H locs hp hG => ?_)
  obtain ⟨⟨o1, ho2, rfl⟩, hu9, hk3⟩ := hp
  rw [hu9] at hG
  refine W.widen (k := 1) (n := 6) (Nat.le_of_ble_eq_true rfl) (Nat.le_of_ble_eq_true rfl) ?_
  refine W.eq (g2 := F0 m 5 ls [va_rf (o1.map ia)]) rfl ?_
  refine k_astoreQ (lv' := [(4, va_rf (o1.map ia)), (0, .ref hs), (1, .int i9), (2, .int r9), (3, .int w9)]) hx hb dX3_leaf_5 hl (by decide) rfl (fun ls hl => ?_)
  refine lv_aload_n hx hb dX3_leaf_7 rfl (lv_at hl 1 rfl) ?_
  refine lv_iload_n hx hb dX3_leaf_8 rfl (lv_at hl 3 rfl) ?_
  refine k_callV (nn := 1) (C := RX3) hC hG ks hSh.1 (ci := 4) rfl (K_X3_rateAt l hfl D cI cJ cZ cO z mi ws ks hs hd lr li hpr kp lim ret clm fP ni ia pi par rt ra wa me va dn nr pr fA kli kei edi leni mci gi klr ker edr lenr mcr gr hSh r9) gX3_leaf_X3_rateAt rfl rfl (by decide +kernel) ⟨(Nat.le_of_ble_eq_true rfl), (Nat.le_of_ble_eq_true rfl)⟩ hl.1 rfl (Nat.le_of_ble_eq_true rfl) dX3_leaf_9 ⟨(Nat.le_of_ble_eq_true rfl), (Nat.le_of_ble_eq_true rfl)⟩ (fun E9 ce9 q9 u9 H9 locs9 hp9 hG9 h91 h92 h93 => k_out hC hG9 h91 h92 h93 (by obtain ⟨rfl, rfl, h99⟩ := hp9; exact ⟨rfl, Or.inr (Or.inl ⟨rfl, hk3, h99⟩)⟩) (Nat.le_of_ble_eq_true rfl) (Nat.le_of_ble_eq_true rfl)) (fun v9 u9 H locs hp hG => ?_)
  obtain ⟨⟨q4, hq5, hi6, rfl⟩, hu9⟩ := hp
  rw [hu9] at hG
  have hk7 : kNum r9 nr = true := by rw [hi6]; exact kNum_of hq5 (by omega)
  refine W.widen (k := 2) (n := 12) (Nat.le_of_ble_eq_true rfl) (Nat.le_of_ble_eq_true rfl) ?_
  refine W.eq (g2 := F0 m 12 ls [.ref (ra q4)]) rfl ?_
  refine lv_astore (lv' := [(5, .ref (ra q4)), (4, va_rf (o1.map ia)), (0, .ref hs), (1, .int i9), (2, .int r9), (3, .int w9)]) hx hb dX3_leaf_12 hl (by decide) (by cases o1 <;> rfl) (fun ls hl => ?_)
  refine lv_iload_n hx hb dX3_leaf_14 rfl (lv_at hl 5 rfl) ?_
  refine lv_iconst (v := 0) hx hb dX3_leaf_15 (by decide) ?_
  refine lv_bipush (v := 50) hx hb dX3_leaf_16 (by decide) ?_
  refine k_callS (nn := 3) hC hG (K_X3_checkRange l hfl D cI cJ cZ cO z mi (ws) w9 0 50) gX3_leaf_X3_checkRange rfl rfl (by decide +kernel) ⟨(Nat.le_of_ble_eq_true rfl), (Nat.le_of_ble_eq_true rfl)⟩ hl.1 rfl (Nat.le_of_ble_eq_true rfl) dX3_leaf_18 ⟨(Nat.le_of_ble_eq_true rfl), (Nat.le_of_ble_eq_true rfl)⟩ (fun E9 ce9 q9 u9 H9 locs9 hp9 hG9 h91 h92 h93 => k_out hC hG9 h91 h92 h93 (by obtain ⟨rfl, hu8, h99⟩ := hp9; rw [hu8]; exact ⟨rfl, Or.inr (Or.inr (Or.inl ⟨rfl, hk3, hk7, h99⟩))⟩) (Nat.le_of_ble_eq_true rfl) (Nat.le_of_ble_eq_true rfl)) (fun v9 u9 H locs hp hG => ?_)
  obtain ⟨rfl, hu9, hr8⟩ := hp
  rw [hu9] at hG
  refine W.widen (k := 3) (n := 18) (Nat.le_of_ble_eq_true rfl) (Nat.le_of_ble_eq_true rfl) ?_
  refine W.eq (g2 := F0 m 21 ls []) rfl ?_
  refine lv_aload_n hx hb dX3_leaf_21 rfl (lv_at hl 2 rfl) ?_
  refine k_aloadQ hx hb dX3_leaf_22 (lv_at hl 1 rfl) ?_
  refine lv_aload hx hb dX3_leaf_24 (lv_at hl 0 rfl) ?_
  refine lv_iload_n hx hb dX3_leaf_26 rfl (lv_at hl 5 rfl) ?_
  refine k_callV (nn := 3) (C := RX3) hC hG ks hSh.1 (ci := 4) rfl (K_X3_addItem l hfl D cI cJ cZ cO z mi ws ks hs hd lr li hpr kp lim ret clm fP ni ia pi par rt ra wa me va dn nr pr fA kli kei edi leni mci gi klr ker edr lenr mcr gr hSh o1 (some q4) (kPt_lt ho2) (fun k hk => by cases hk; exact hq5) w9) gX3_leaf_X3_addItem rfl rfl (by decide +kernel) ⟨(Nat.le_of_ble_eq_true rfl), (Nat.le_of_ble_eq_true rfl)⟩ hl.1 rfl (Nat.le_of_ble_eq_true rfl) dX3_leaf_27 ⟨(Nat.le_of_ble_eq_true rfl), (Nat.le_of_ble_eq_true rfl)⟩ (fun E9 ce9 q9 u9 H9 locs9 hp9 hG9 h91 h92 h93 => k_out hC hG9 h91 h92 h93 (by (obtain ⟨rfl, h98⟩ := hp9; (rcases h98 with ⟨rfl, h99⟩ | ⟨rfl, h97, h99⟩); (exact ⟨rfl, Or.inr (Or.inr (Or.inr (Or.inl ⟨rfl, hk3, hk7, hr8, ((kNq_at ho2 (by omega)).trans h99)⟩)))⟩); (exact ⟨rfl, Or.inr (Or.inr (Or.inr (Or.inr (⟨rfl, hk3, hk7, hr8, ((kNq_at ho2 (by omega)).trans h97), h99⟩))))⟩))) (Nat.le_of_ble_eq_true rfl) (Nat.le_of_ble_eq_true rfl)) (fun v9 u9 H locs hp hG => ?_)
  obtain ⟨rfl, hnw, hk9, hk10⟩ := hp
  have hk11 : kNq rt i9 = true := (kNq_at ho2 (by omega)).trans hk9
  refine W.widen (k := 7) (n := 98) (Nat.le_of_ble_eq_true rfl) (Nat.le_of_ble_eq_true rfl) ?_
  refine W.eq (g2 := F0 m 30 ls [.int (nI ni)]) rfl ?_
  exact k_reti hC hr hG ⟨⟨o1, q4, ho2, rfl, hq5, hi6, hnw⟩, hk3, hk7, hr8, hk11, hk10⟩ (Nat.le_of_ble_eq_true rfl) (Nat.le_of_ble_eq_true rfl) dX3_leaf_30

