theorem k_ltC {n C : Nat} {c : Int32} (hc : c = nI C) (h : decide (nI n < c) = true) (hn : n < 2 ^ 31) (hC : C < 2 ^ 31) : n < C := by
  subst hc
  exact (nI_ltI hn hC).mp (of_decide_eq_true h)
/-- whether no leaf: nothing, or a heading -/
def kNl (rt : Nat → Option Nat) (o : Option Nat) : Bool := match o with
  | none => true
  | some k => !(rt k).isSome
/-- after a new item -/
def kNewI (cI cO : ClassId) (z : Nat) (ws : va_W) (ks : Nat) (hs : Nat) (hd : Nat) (lr : Nat) (li : Nat) (hpr : Nat) (kp : Nat) (lim : Int32) (ret : Int32) (clm : Int64) (fP : Nat → Int32) (ni : Nat) (ia : Nat → Nat) (pi : Nat → Nat) (par : Nat → Option Nat) (rt : Nat → Option Nat) (ra : Nat → Nat) (wa : Nat → Int32) (me : Nat → Int32) (va : Nat → Int32) (dn : Nat → Int32) (nr : Nat) (pr : Nat → Nat) (fA : Nat → Int32) (kli : Nat) (kei : Nat) (edi : Nat) (leni : Nat) (mci : Int32) (gi : Nat → Option Nat) (klr : Nat) (ker : Nat) (edr : Nat) (lenr : Nat) (mcr : Int32) (gr : Nat → Option Nat) (o r : Option Nat) (w9 : Int32) (u : va_W) : Prop :=
  ∃ (ia' pi' : Nat → Nat) (kei' edi' leni' : Nat) (mci' : Int32) (gi' : Nat → Option Nat), kSh cI cO z u ks hs hd lr li hpr kp lim ret clm fP (ni + 1) ia' pi' (va_up par ni o) (va_up rt ni r) ra (va_up wa ni w9) (va_up me ni 0) (va_up va ni 0) (va_up dn ni 0) nr pr fA kli kei' edi' leni' mci' gi' klr ker edr lenr mcr gr ∧ kFrm ws u
def kNewR (cI cO : ClassId) (z : Nat) (ws : va_W) (ks : Nat) (hs : Nat) (hd : Nat) (lr : Nat) (li : Nat) (hpr : Nat) (kp : Nat) (lim : Int32) (ret : Int32) (clm : Int64) (fP : Nat → Int32) (ni : Nat) (ia : Nat → Nat) (pi : Nat → Nat) (par : Nat → Option Nat) (rt : Nat → Option Nat) (ra : Nat → Nat) (wa : Nat → Int32) (me : Nat → Int32) (va : Nat → Int32) (dn : Nat → Int32) (nr : Nat) (pr : Nat → Nat) (fA : Nat → Int32) (kli : Nat) (kei : Nat) (edi : Nat) (leni : Nat) (mci : Int32) (gi : Nat → Option Nat) (klr : Nat) (ker : Nat) (edr : Nat) (lenr : Nat) (mcr : Int32) (gr : Nat → Option Nat) (u1 u2 u3 : Int32) (u : va_W) : Prop :=
  ∃ (ra' pr' : Nat → Nat) (ker' edr' lenr' : Nat) (mcr' : Int32) (gr' : Nat → Option Nat), kSh cI cO z u ks hs hd lr li hpr kp lim ret clm fP ni ia pi par rt ra' wa me va dn (nr + 1) pr' (fA3 fA nr u1 u2 u3) kli kei edi leni mci gi klr ker' edr' lenr' mcr' gr' ∧ kFrm ws u

set_option maxHeartbeats 4000000 in
set_option maxRecDepth 100000 in
/-- addItem -/
theorem K_X3_addItem_NN (l : Launch) (hfl : l.stackTraces = false) (D : va_G) (cI cJ cZ cO : ClassId) (z mi : Nat) (ws : va_W) (ks : Nat) (hs : Nat) (hd : Nat) (lr : Nat) (li : Nat) (hpr : Nat) (kp : Nat) (lim : Int32) (ret : Int32) (clm : Int64) (fP : Nat → Int32) (ni : Nat) (ia : Nat → Nat) (pi : Nat → Nat) (par : Nat → Option Nat) (rt : Nat → Option Nat) (ra : Nat → Nat) (wa : Nat → Int32) (me : Nat → Int32) (va : Nat → Int32) (dn : Nat → Int32) (nr : Nat) (pr : Nat → Nat) (fA : Nat → Int32) (kli : Nat) (kei : Nat) (edi : Nat) (leni : Nat) (mci : Int32) (gi : Nat → Option Nat) (klr : Nat) (ker : Nat) (edr : Nat) (lenr : Nat) (mcr : Int32) (gr : Nat → Option Nat) (hSh : kSh cI cO z ws ks hs hd lr li hpr kp lim ret clm fP ni ia pi par rt ra wa me va dn nr pr fA kli kei edi leni mci gi klr ker edr lenr mcr gr)  (w9 : Int32) : kM l D (kTy cI cJ cZ cO) z mi yX3_addItem wsX3_addItem ({ frames := 7, cells := 4, slots := 80, locals := 300 } : Room) [.ref hs, .null, .null, .int w9] (ws) (fun v u => v = some (.int (nI ni)) ∧ kNewI cI cO z ws ks hs hd lr li hpr kp lim ret clm fP ni ia pi par rt ra wa me va dn nr pr fA kli kei edi leni mci gi klr ker edr lenr mcr gr none none w9 u ∧ (kNl rt none) = true ∧ (decide ((nI ni) < 30)) = true) (fun E u => u = ws ∧ ((E = kISE ∧ (kNl rt none) = false) ∨ (E = kISE ∧ (kNl rt none) = true ∧ (decide ((nI ni) < 30)) = false))) := by
  refine kM.of hfl (cc := cX3_addItem) (maxL := 4) (ret := (some .int)) (by decide) rfl (Nat.le_of_ble_eq_true rfl) ?_
  intro p e s m args below meth c A ls hC hr hmn hG hl
  have hx := hC.x
  have hb := hC.b
  have hl : lv_has ls 4 [(0, .ref hs), (1, .null), (2, .null), (3, .int w9)] := hl
  have hi_RX1 : ∀ w ∈ wsX10, w ∈ wsX3_addItem := fun w h => List.mem_cons_of_mem _ (List.mem_append_left _ (List.mem_append_left _ (List.mem_append_right _ h)))
  have hi_RX3 : ∀ w ∈ wsX30, w ∈ wsX3_addItem := fun w h => List.mem_cons_of_mem _ (List.mem_append_left _ (List.mem_append_left _ (List.mem_append_left _ (List.mem_append_right _ h))))
  have hn30 : ni ≤ 30 ∧ nr ≤ 12 := hSh.2.2.1
  refine k_aload_nN hx hb dX3_addItem_0 rfl (lv_at hl 1 rfl) ?_
  refine lv_ifnullN (tgt := 21) hx hb dX3_addItem_1 (by decide) ?_
  refine lv_aload_n hx hb dX3_addItem_21 rfl (lv_at hl 0 rfl) ?_
  refine k_get (C := RX3) (T := TX3) (N := 7) (ci := 4) (v := .ref li) (fs := [.ref hd, .ref lr, .ref li, .ref hpr, .int lim, .int ret, .long clm]) hC hG hi_RX3 ks hSh.1 rfl 2 (by decide) (List.mem_of_getElem? (i := 3) rfl) rfl rfl dX3_addItem_22 ?_
  refine k_callV (nn := 0) (C := RJx4a65c) hC hG kli hSh.2.2.2.2.2.2.1.1 (ci := 0) rfl (K_list_size l hfl D cI cJ cZ cO z mi (ws) kli li mci edi ni hSh.2.2.2.2.2.2.1.1) gX3_addItem_Jx4a65c_size_8abf5 rfl rfl (by decide +kernel) ⟨(Nat.le_of_ble_eq_true rfl), (Nat.le_of_ble_eq_true rfl)⟩ hl.1 rfl (Nat.le_of_ble_eq_true rfl) dX3_addItem_25 ⟨(Nat.le_of_ble_eq_true rfl), (Nat.le_of_ble_eq_true rfl)⟩ (fun _ _ _ _ _ _ hp => hp.elim) (fun v9 u9 H locs hp hG => ?_)
  obtain ⟨rfl, hu9⟩ := hp
  rw [hu9] at hG
  refine W.widen (k := 0) (n := 0) (Nat.le_of_ble_eq_true rfl) (Nat.le_of_ble_eq_true rfl) ?_
  refine W.eq (g2 := F0 m 28 ls [.int (nI ni)]) rfl ?_
  refine lv_bipush (v := 30) hx hb dX3_addItem_28 (by decide) ?_
  refine k_icmp_lt (tgt := 43) hx hb dX3_addItem_30 (by decide) (fun c_1 => ?_) (fun c_1 => ?_)
  · have h29 : ni < 30 := k_ltC (C := 30) rfl c_1 (by omega) (by omega)
    refine lv_aload_n hx hb dX3_addItem_43 rfl (lv_at hl 0 rfl) ?_
    refine k_get (C := RX3) (T := TX3) (N := 7) (ci := 4) (v := .ref li) (fs := [.ref hd, .ref lr, .ref li, .ref hpr, .int lim, .int ret, .long clm]) hC hG hi_RX3 ks hSh.1 rfl 2 (by decide) (List.mem_of_getElem? (i := 3) rfl) rfl rfl dX3_addItem_44 ?_
    refine k_new (C := RX1) (T := TX1) (N := 6) (ci := 2) (fs := [.null, .null, .int 0, .int 0, .int 0, .int 0]) hC hG hi_RX1 tyX1_ok (List.mem_of_getElem? (i := 4) rfl) (List.mem_of_getElem? (i := 5) rfl) (List.mem_of_getElem? (i := 6) rfl) rfl (fun j9 hj9 => match j9, hj9 with | 0, _ => rfl | 1, _ => rfl | 2, _ => rfl | 3, _ => rfl | 4, _ => rfl | 5, _ => rfl | n9 + 6, h9 => absurd h9 (by omega)) (Nat.le_of_ble_eq_true rfl) (Nat.le_of_ble_eq_true rfl) dX3_addItem_47 (fun qn H hG => ?_)
    refine W.widen (k := 1) (n := 6) (Nat.le_of_ble_eq_true rfl) (Nat.le_of_ble_eq_true rfl) ?_
    have hG : kG D A s (ws ++ [(qn, .inr (2, [.null, .null, .int 0, .int 0, .int 0, .int 0]))]) H locs := hG
    refine lv_dup hx hb dX3_addItem_50 rfl ?_
    refine k_aload_nN hx hb dX3_addItem_51 rfl (lv_at hl 1 rfl) ?_
    refine k_aload_nN hx hb dX3_addItem_52 rfl (lv_at hl 2 rfl) ?_
    refine lv_iload_n hx hb dX3_addItem_53 rfl (lv_at hl 3 rfl) ?_
    refine k_callI (nn := 3) hC hG (K_X1_init l hfl D cI cJ cZ cO z mi (ws ++ [(qn, .inr (2, [.null, .null, .int 0, .int 0, .int 0, .int 0]))]) ws.length qn none none 0 0 0 0 w9 (k_last _ _)) gX3_addItem_X1_init (List.mem_of_getElem? (i := 18) rfl) (List.mem_of_getElem? (i := 19) rfl) (List.mem_of_getElem? (i := 6) rfl) rfl rfl (by decide +kernel) ⟨(Nat.le_of_ble_eq_true rfl), (Nat.le_of_ble_eq_true rfl)⟩ hl.1 rfl (Nat.le_of_ble_eq_true rfl) dX3_addItem_54 ⟨(Nat.le_of_ble_eq_true rfl), (Nat.le_of_ble_eq_true rfl)⟩ (fun _ _ _ _ _ _ hp => hp.elim) (fun v9 u9 H locs hp hG => ?_)
    obtain ⟨rfl, hu9⟩ := hp
    rw [hu9, k_setlast] at hG
    have hG : kG D A s (ws ++ [(qn, .inr (2, [.null, .null, .int w9, .int 0, .int 0, .int 0]))]) H locs := hG
    refine W.widen (k := 1) (n := 6) (Nat.le_of_ble_eq_true rfl) (Nat.le_of_ble_eq_true rfl) ?_
    refine W.eq (g2 := F0 m 57 ls [.ref qn, .ref li]) rfl ?_
    have hLx : (ni = 0 ∧ edi = z) ∨ ((ws ++ [(qn, .inr (2, [.null, .null, .int w9, .int 0, .int 0, .int 0]))])[kei]? = some (edi, kOA cO leni gi) ∧ ni ≤ leni ∧ kLn leni ∧ 0 < ni) := hSh.2.2.2.2.2.2.1.2.imp (fun e => ⟨e.1, e.2.1⟩) (fun e => ⟨k_fst e.1, e.2.1, e.2.2.1, e.2.2.2.1⟩)
    have hEx : kHE (ws ++ [(qn, .inr (2, [.null, .null, .int w9, .int 0, .int 0, .int 0]))]) ni 2 gi := fun i hi y hy => by
      rw [(kLP.arr hSh.2.2.2.2.2.2.1 hi).2.2.2 i hi] at hy
      cases hy
      exact ⟨pi i, _, k_fst (hSh.2.2.2.1.1 i hi)⟩
    have hq : ∀ j, j < ni → ia j ≠ qn := fun j hj e => by
      have h1 := hG.2.1.1 (pi j) ws.length _ _ (k_fst (hSh.2.2.2.1.1 j hj)) (k_last _ _) e
      have h2 := k_len (hSh.2.2.2.1.1 j hj)
      omega
    have hnk : ws.length ≠ kli := by have := (kLP_len hSh.2.2.2.2.2.2.1).1; omega
    refine k_callV (nn := 1) (C := RJx4a65c) hC hG kli (k_fst hSh.2.2.2.2.2.2.1.1) (ci := 0) rfl (K_list_add l hfl D cI cJ cZ cO z mi (ws ++ [(qn, .inr (2, [.null, .null, .int w9, .int 0, .int 0, .int 0]))]) kli kei li mci edi ni leni gi 2 6 RX1 TX1 rfl (List.mem_of_getElem? (i := 3) rfl) (k_fst hSh.2.2.2.2.2.2.1.1) hLx hEx ws.length qn _ (k_last _ _) hnk (by omega) (by decide)) gX3_addItem_Jx4a65c_add_9ea2d rfl rfl (by decide +kernel) ⟨(Nat.le_of_ble_eq_true rfl), (Nat.le_of_ble_eq_true rfl)⟩ hl.1 rfl (Nat.le_of_ble_eq_true rfl) dX3_addItem_57 ⟨(Nat.le_of_ble_eq_true rfl), (Nat.le_of_ble_eq_true rfl)⟩ (fun _ _ _ _ _ _ hp => hp.elim) (fun v9 u9 H locs hp hG => ?_)
    obtain ⟨rfl, hu9⟩ := hp
    obtain ⟨ke', ed', len', g', hS', hF'⟩ := kSh_addI hSh (by omega) (o := none) (fun k hk => by cases hk) (r := none) (fun k hk => by cases hk) hq hu9
    refine W.widen (k := 2) (n := 66) (Nat.le_of_ble_eq_true rfl) (Nat.le_of_ble_eq_true rfl) ?_
    refine W.eq (g2 := F0 m 60 ls [.int 1]) rfl ?_
    refine lv_pop hx hb dX3_addItem_60 rfl ?_
    refine lv_aload_n hx hb dX3_addItem_61 rfl (lv_at hl 0 rfl) ?_
    refine k_get (C := RX3) (T := TX3) (N := 7) (ci := 4) (v := .ref li) (fs := [.ref hd, .ref lr, .ref li, .ref hpr, .int lim, .int ret, .long clm]) hC hG hi_RX3 ks hS'.1 rfl 2 (by decide) (List.mem_of_getElem? (i := 3) rfl) rfl rfl dX3_addItem_62 ?_
    refine k_callV (nn := 0) (C := RJx4a65c) hC hG kli hS'.2.2.2.2.2.2.1.1 (ci := 0) rfl (K_list_size l hfl D cI cJ cZ cO z mi (u9) kli li (mci + 1) ed' (ni + 1) hS'.2.2.2.2.2.2.1.1) gX3_addItem_Jx4a65c_size_8abf5 rfl rfl (by decide +kernel) ⟨(Nat.le_of_ble_eq_true rfl), (Nat.le_of_ble_eq_true rfl)⟩ hl.1 rfl (Nat.le_of_ble_eq_true rfl) dX3_addItem_65 ⟨(Nat.le_of_ble_eq_true rfl), (Nat.le_of_ble_eq_true rfl)⟩ (fun _ _ _ _ _ _ hp => hp.elim) (fun v9 u9 H locs hp hG => ?_)
    obtain ⟨rfl, hu9⟩ := hp
    rw [hu9] at hG
    refine W.widen (k := 2) (n := 66) (Nat.le_of_ble_eq_true rfl) (Nat.le_of_ble_eq_true rfl) ?_
    refine W.eq (g2 := F0 m 68 ls [.int (nI (ni + 1))]) rfl ?_
    refine lv_iconst (v := 1) hx hb dX3_addItem_68 (by decide) ?_
    refine lv_isub hx hb dX3_addItem_69 ?_
    refine k_topi (y := nI ni) (nI_pred _) ?_
    exact k_reti hC hr hG ⟨rfl, ⟨_, _, ke', ed', len', _, g', hS', hF'⟩, rfl, c_1⟩ (Nat.le_of_ble_eq_true rfl) (Nat.le_of_ble_eq_true rfl) dX3_addItem_70
  · exact k_throw (text := "no room for an item") (is := 205) (ic := 60) (cls := "java/lang/IllegalStateException") hC hG rfl (by decide +kernel) (List.mem_of_getElem? (i := 1) rfl) (List.mem_of_getElem? (i := 2) rfl) (by decide) (fun w h => List.mem_cons_of_mem _ (List.mem_append_right _ h)) (by decide +kernel) (by decide +kernel) hl.1 dX3_addItem_33 dX3_addItem_36 dX3_addItem_37 dX3_addItem_39 dX3_addItem_42 ⟨(Nat.le_of_ble_eq_true rfl), (Nat.le_of_ble_eq_true rfl)⟩ ⟨(Nat.le_of_ble_eq_true rfl), (Nat.le_of_ble_eq_true rfl)⟩ ⟨(Nat.le_of_ble_eq_true rfl), (Nat.le_of_ble_eq_true rfl)⟩ (⟨rfl, Or.inr ⟨rfl, rfl, c_1⟩⟩)

set_option maxHeartbeats 4000000 in
set_option maxRecDepth 100000 in
/-- addItem -/
theorem K_X3_addItem_NS (l : Launch) (hfl : l.stackTraces = false) (D : va_G) (cI cJ cZ cO : ClassId) (z mi : Nat) (ws : va_W) (ks : Nat) (hs : Nat) (hd : Nat) (lr : Nat) (li : Nat) (hpr : Nat) (kp : Nat) (lim : Int32) (ret : Int32) (clm : Int64) (fP : Nat → Int32) (ni : Nat) (ia : Nat → Nat) (pi : Nat → Nat) (par : Nat → Option Nat) (rt : Nat → Option Nat) (ra : Nat → Nat) (wa : Nat → Int32) (me : Nat → Int32) (va : Nat → Int32) (dn : Nat → Int32) (nr : Nat) (pr : Nat → Nat) (fA : Nat → Int32) (kli : Nat) (kei : Nat) (edi : Nat) (leni : Nat) (mci : Int32) (gi : Nat → Option Nat) (klr : Nat) (ker : Nat) (edr : Nat) (lenr : Nat) (mcr : Int32) (gr : Nat → Option Nat) (hSh : kSh cI cO z ws ks hs hd lr li hpr kp lim ret clm fP ni ia pi par rt ra wa me va dn nr pr fA kli kei edi leni mci gi klr ker edr lenr mcr gr)  (jr : Nat) (hjr : jr < nr) (w9 : Int32) : kM l D (kTy cI cJ cZ cO) z mi yX3_addItem wsX3_addItem ({ frames := 7, cells := 4, slots := 80, locals := 300 } : Room) [.ref hs, .null, .ref (ra jr), .int w9] (ws) (fun v u => v = some (.int (nI ni)) ∧ kNewI cI cO z ws ks hs hd lr li hpr kp lim ret clm fP ni ia pi par rt ra wa me va dn nr pr fA kli kei edi leni mci gi klr ker edr lenr mcr gr none (some jr) w9 u ∧ (kNl rt none) = true ∧ (decide ((nI ni) < 30)) = true) (fun E u => u = ws ∧ ((E = kISE ∧ (kNl rt none) = false) ∨ (E = kISE ∧ (kNl rt none) = true ∧ (decide ((nI ni) < 30)) = false))) := by
  refine kM.of hfl (cc := cX3_addItem) (maxL := 4) (ret := (some .int)) (by decide) rfl (Nat.le_of_ble_eq_true rfl) ?_
  intro p e s m args below meth c A ls hC hr hmn hG hl
  have hx := hC.x
  have hb := hC.b
  have hl : lv_has ls 4 [(0, .ref hs), (1, .null), (2, .ref (ra jr)), (3, .int w9)] := hl
  have hi_RX1 : ∀ w ∈ wsX10, w ∈ wsX3_addItem := fun w h => List.mem_cons_of_mem _ (List.mem_append_left _ (List.mem_append_left _ (List.mem_append_right _ h)))
  have hi_RX3 : ∀ w ∈ wsX30, w ∈ wsX3_addItem := fun w h => List.mem_cons_of_mem _ (List.mem_append_left _ (List.mem_append_left _ (List.mem_append_left _ (List.mem_append_right _ h))))
  have hn30 : ni ≤ 30 ∧ nr ≤ 12 := hSh.2.2.1
  refine k_aload_nN hx hb dX3_addItem_0 rfl (lv_at hl 1 rfl) ?_
  refine lv_ifnullN (tgt := 21) hx hb dX3_addItem_1 (by decide) ?_
  refine lv_aload_n hx hb dX3_addItem_21 rfl (lv_at hl 0 rfl) ?_
  refine k_get (C := RX3) (T := TX3) (N := 7) (ci := 4) (v := .ref li) (fs := [.ref hd, .ref lr, .ref li, .ref hpr, .int lim, .int ret, .long clm]) hC hG hi_RX3 ks hSh.1 rfl 2 (by decide) (List.mem_of_getElem? (i := 3) rfl) rfl rfl dX3_addItem_22 ?_
  refine k_callV (nn := 0) (C := RJx4a65c) hC hG kli hSh.2.2.2.2.2.2.1.1 (ci := 0) rfl (K_list_size l hfl D cI cJ cZ cO z mi (ws) kli li mci edi ni hSh.2.2.2.2.2.2.1.1) gX3_addItem_Jx4a65c_size_8abf5 rfl rfl (by decide +kernel) ⟨(Nat.le_of_ble_eq_true rfl), (Nat.le_of_ble_eq_true rfl)⟩ hl.1 rfl (Nat.le_of_ble_eq_true rfl) dX3_addItem_25 ⟨(Nat.le_of_ble_eq_true rfl), (Nat.le_of_ble_eq_true rfl)⟩ (fun _ _ _ _ _ _ hp => hp.elim) (fun v9 u9 H locs hp hG => ?_)
  obtain ⟨rfl, hu9⟩ := hp
  rw [hu9] at hG
  refine W.widen (k := 0) (n := 0) (Nat.le_of_ble_eq_true rfl) (Nat.le_of_ble_eq_true rfl) ?_
  refine W.eq (g2 := F0 m 28 ls [.int (nI ni)]) rfl ?_
  refine lv_bipush (v := 30) hx hb dX3_addItem_28 (by decide) ?_
  refine k_icmp_lt (tgt := 43) hx hb dX3_addItem_30 (by decide) (fun c_1 => ?_) (fun c_1 => ?_)
  · have h29 : ni < 30 := k_ltC (C := 30) rfl c_1 (by omega) (by omega)
    refine lv_aload_n hx hb dX3_addItem_43 rfl (lv_at hl 0 rfl) ?_
    refine k_get (C := RX3) (T := TX3) (N := 7) (ci := 4) (v := .ref li) (fs := [.ref hd, .ref lr, .ref li, .ref hpr, .int lim, .int ret, .long clm]) hC hG hi_RX3 ks hSh.1 rfl 2 (by decide) (List.mem_of_getElem? (i := 3) rfl) rfl rfl dX3_addItem_44 ?_
    refine k_new (C := RX1) (T := TX1) (N := 6) (ci := 2) (fs := [.null, .null, .int 0, .int 0, .int 0, .int 0]) hC hG hi_RX1 tyX1_ok (List.mem_of_getElem? (i := 4) rfl) (List.mem_of_getElem? (i := 5) rfl) (List.mem_of_getElem? (i := 6) rfl) rfl (fun j9 hj9 => match j9, hj9 with | 0, _ => rfl | 1, _ => rfl | 2, _ => rfl | 3, _ => rfl | 4, _ => rfl | 5, _ => rfl | n9 + 6, h9 => absurd h9 (by omega)) (Nat.le_of_ble_eq_true rfl) (Nat.le_of_ble_eq_true rfl) dX3_addItem_47 (fun qn H hG => ?_)
    refine W.widen (k := 1) (n := 6) (Nat.le_of_ble_eq_true rfl) (Nat.le_of_ble_eq_true rfl) ?_
    have hG : kG D A s (ws ++ [(qn, .inr (2, [.null, .null, .int 0, .int 0, .int 0, .int 0]))]) H locs := hG
    refine lv_dup hx hb dX3_addItem_50 rfl ?_
    refine k_aload_nN hx hb dX3_addItem_51 rfl (lv_at hl 1 rfl) ?_
    refine lv_aload_n hx hb dX3_addItem_52 rfl (lv_at hl 2 rfl) ?_
    refine lv_iload_n hx hb dX3_addItem_53 rfl (lv_at hl 3 rfl) ?_
    refine k_callI (nn := 3) hC hG (K_X1_init l hfl D cI cJ cZ cO z mi (ws ++ [(qn, .inr (2, [.null, .null, .int 0, .int 0, .int 0, .int 0]))]) ws.length qn none (some (ra jr)) 0 0 0 0 w9 (k_last _ _)) gX3_addItem_X1_init (List.mem_of_getElem? (i := 18) rfl) (List.mem_of_getElem? (i := 19) rfl) (List.mem_of_getElem? (i := 6) rfl) rfl rfl (by decide +kernel) ⟨(Nat.le_of_ble_eq_true rfl), (Nat.le_of_ble_eq_true rfl)⟩ hl.1 rfl (Nat.le_of_ble_eq_true rfl) dX3_addItem_54 ⟨(Nat.le_of_ble_eq_true rfl), (Nat.le_of_ble_eq_true rfl)⟩ (fun _ _ _ _ _ _ hp => hp.elim) (fun v9 u9 H locs hp hG => ?_)
    obtain ⟨rfl, hu9⟩ := hp
    rw [hu9, k_setlast] at hG
    have hG : kG D A s (ws ++ [(qn, .inr (2, [.null, .ref (ra jr), .int w9, .int 0, .int 0, .int 0]))]) H locs := hG
    refine W.widen (k := 1) (n := 6) (Nat.le_of_ble_eq_true rfl) (Nat.le_of_ble_eq_true rfl) ?_
    refine W.eq (g2 := F0 m 57 ls [.ref qn, .ref li]) rfl ?_
    have hLx : (ni = 0 ∧ edi = z) ∨ ((ws ++ [(qn, .inr (2, [.null, .ref (ra jr), .int w9, .int 0, .int 0, .int 0]))])[kei]? = some (edi, kOA cO leni gi) ∧ ni ≤ leni ∧ kLn leni ∧ 0 < ni) := hSh.2.2.2.2.2.2.1.2.imp (fun e => ⟨e.1, e.2.1⟩) (fun e => ⟨k_fst e.1, e.2.1, e.2.2.1, e.2.2.2.1⟩)
    have hEx : kHE (ws ++ [(qn, .inr (2, [.null, .ref (ra jr), .int w9, .int 0, .int 0, .int 0]))]) ni 2 gi := fun i hi y hy => by
      rw [(kLP.arr hSh.2.2.2.2.2.2.1 hi).2.2.2 i hi] at hy
      cases hy
      exact ⟨pi i, _, k_fst (hSh.2.2.2.1.1 i hi)⟩
    have hq : ∀ j, j < ni → ia j ≠ qn := fun j hj e => by
      have h1 := hG.2.1.1 (pi j) ws.length _ _ (k_fst (hSh.2.2.2.1.1 j hj)) (k_last _ _) e
      have h2 := k_len (hSh.2.2.2.1.1 j hj)
      omega
    have hnk : ws.length ≠ kli := by have := (kLP_len hSh.2.2.2.2.2.2.1).1; omega
    refine k_callV (nn := 1) (C := RJx4a65c) hC hG kli (k_fst hSh.2.2.2.2.2.2.1.1) (ci := 0) rfl (K_list_add l hfl D cI cJ cZ cO z mi (ws ++ [(qn, .inr (2, [.null, .ref (ra jr), .int w9, .int 0, .int 0, .int 0]))]) kli kei li mci edi ni leni gi 2 6 RX1 TX1 rfl (List.mem_of_getElem? (i := 3) rfl) (k_fst hSh.2.2.2.2.2.2.1.1) hLx hEx ws.length qn _ (k_last _ _) hnk (by omega) (by decide)) gX3_addItem_Jx4a65c_add_9ea2d rfl rfl (by decide +kernel) ⟨(Nat.le_of_ble_eq_true rfl), (Nat.le_of_ble_eq_true rfl)⟩ hl.1 rfl (Nat.le_of_ble_eq_true rfl) dX3_addItem_57 ⟨(Nat.le_of_ble_eq_true rfl), (Nat.le_of_ble_eq_true rfl)⟩ (fun _ _ _ _ _ _ hp => hp.elim) (fun v9 u9 H locs hp hG => ?_)
    obtain ⟨rfl, hu9⟩ := hp
    obtain ⟨ke', ed', len', g', hS', hF'⟩ := kSh_addI hSh (by omega) (o := none) (fun k hk => by cases hk) (r := some jr) (fun k hk => by cases hk; exact hjr) hq hu9
    refine W.widen (k := 2) (n := 66) (Nat.le_of_ble_eq_true rfl) (Nat.le_of_ble_eq_true rfl) ?_
    refine W.eq (g2 := F0 m 60 ls [.int 1]) rfl ?_
    refine lv_pop hx hb dX3_addItem_60 rfl ?_
    refine lv_aload_n hx hb dX3_addItem_61 rfl (lv_at hl 0 rfl) ?_
    refine k_get (C := RX3) (T := TX3) (N := 7) (ci := 4) (v := .ref li) (fs := [.ref hd, .ref lr, .ref li, .ref hpr, .int lim, .int ret, .long clm]) hC hG hi_RX3 ks hS'.1 rfl 2 (by decide) (List.mem_of_getElem? (i := 3) rfl) rfl rfl dX3_addItem_62 ?_
    refine k_callV (nn := 0) (C := RJx4a65c) hC hG kli hS'.2.2.2.2.2.2.1.1 (ci := 0) rfl (K_list_size l hfl D cI cJ cZ cO z mi (u9) kli li (mci + 1) ed' (ni + 1) hS'.2.2.2.2.2.2.1.1) gX3_addItem_Jx4a65c_size_8abf5 rfl rfl (by decide +kernel) ⟨(Nat.le_of_ble_eq_true rfl), (Nat.le_of_ble_eq_true rfl)⟩ hl.1 rfl (Nat.le_of_ble_eq_true rfl) dX3_addItem_65 ⟨(Nat.le_of_ble_eq_true rfl), (Nat.le_of_ble_eq_true rfl)⟩ (fun _ _ _ _ _ _ hp => hp.elim) (fun v9 u9 H locs hp hG => ?_)
    obtain ⟨rfl, hu9⟩ := hp
    rw [hu9] at hG
    refine W.widen (k := 2) (n := 66) (Nat.le_of_ble_eq_true rfl) (Nat.le_of_ble_eq_true rfl) ?_
    refine W.eq (g2 := F0 m 68 ls [.int (nI (ni + 1))]) rfl ?_
    refine lv_iconst (v := 1) hx hb dX3_addItem_68 (by decide) ?_
    refine lv_isub hx hb dX3_addItem_69 ?_
    refine k_topi (y := nI ni) (nI_pred _) ?_
    exact k_reti hC hr hG ⟨rfl, ⟨_, _, ke', ed', len', _, g', hS', hF'⟩, rfl, c_1⟩ (Nat.le_of_ble_eq_true rfl) (Nat.le_of_ble_eq_true rfl) dX3_addItem_70
  · exact k_throw (text := "no room for an item") (is := 205) (ic := 60) (cls := "java/lang/IllegalStateException") hC hG rfl (by decide +kernel) (List.mem_of_getElem? (i := 1) rfl) (List.mem_of_getElem? (i := 2) rfl) (by decide) (fun w h => List.mem_cons_of_mem _ (List.mem_append_right _ h)) (by decide +kernel) (by decide +kernel) hl.1 dX3_addItem_33 dX3_addItem_36 dX3_addItem_37 dX3_addItem_39 dX3_addItem_42 ⟨(Nat.le_of_ble_eq_true rfl), (Nat.le_of_ble_eq_true rfl)⟩ ⟨(Nat.le_of_ble_eq_true rfl), (Nat.le_of_ble_eq_true rfl)⟩ ⟨(Nat.le_of_ble_eq_true rfl), (Nat.le_of_ble_eq_true rfl)⟩ (⟨rfl, Or.inr ⟨rfl, rfl, c_1⟩⟩)

set_option maxHeartbeats 4000000 in
set_option maxRecDepth 100000 in
/-- addItem -/
theorem K_X3_addItem_SN (l : Launch) (hfl : l.stackTraces = false) (D : va_G) (cI cJ cZ cO : ClassId) (z mi : Nat) (ws : va_W) (ks : Nat) (hs : Nat) (hd : Nat) (lr : Nat) (li : Nat) (hpr : Nat) (kp : Nat) (lim : Int32) (ret : Int32) (clm : Int64) (fP : Nat → Int32) (ni : Nat) (ia : Nat → Nat) (pi : Nat → Nat) (par : Nat → Option Nat) (rt : Nat → Option Nat) (ra : Nat → Nat) (wa : Nat → Int32) (me : Nat → Int32) (va : Nat → Int32) (dn : Nat → Int32) (nr : Nat) (pr : Nat → Nat) (fA : Nat → Int32) (kli : Nat) (kei : Nat) (edi : Nat) (leni : Nat) (mci : Int32) (gi : Nat → Option Nat) (klr : Nat) (ker : Nat) (edr : Nat) (lenr : Nat) (mcr : Int32) (gr : Nat → Option Nat) (hSh : kSh cI cO z ws ks hs hd lr li hpr kp lim ret clm fP ni ia pi par rt ra wa me va dn nr pr fA kli kei edi leni mci gi klr ker edr lenr mcr gr)  (jo : Nat) (hjo : jo < ni) (w9 : Int32) : kM l D (kTy cI cJ cZ cO) z mi yX3_addItem wsX3_addItem ({ frames := 7, cells := 4, slots := 80, locals := 300 } : Room) [.ref hs, .ref (ia jo), .null, .int w9] (ws) (fun v u => v = some (.int (nI ni)) ∧ kNewI cI cO z ws ks hs hd lr li hpr kp lim ret clm fP ni ia pi par rt ra wa me va dn nr pr fA kli kei edi leni mci gi klr ker edr lenr mcr gr (some jo) none w9 u ∧ (kNl rt (some jo)) = true ∧ (decide ((nI ni) < 30)) = true) (fun E u => u = ws ∧ ((E = kISE ∧ (kNl rt (some jo)) = false) ∨ (E = kISE ∧ (kNl rt (some jo)) = true ∧ (decide ((nI ni) < 30)) = false))) := by
  refine kM.of hfl (cc := cX3_addItem) (maxL := 4) (ret := (some .int)) (by decide) rfl (Nat.le_of_ble_eq_true rfl) ?_
  intro p e s m args below meth c A ls hC hr hmn hG hl
  have hx := hC.x
  have hb := hC.b
  have hl : lv_has ls 4 [(0, .ref hs), (1, .ref (ia jo)), (2, .null), (3, .int w9)] := hl
  have hi_RX1 : ∀ w ∈ wsX10, w ∈ wsX3_addItem := fun w h => List.mem_cons_of_mem _ (List.mem_append_left _ (List.mem_append_left _ (List.mem_append_right _ h)))
  have hi_RX3 : ∀ w ∈ wsX30, w ∈ wsX3_addItem := fun w h => List.mem_cons_of_mem _ (List.mem_append_left _ (List.mem_append_left _ (List.mem_append_left _ (List.mem_append_right _ h))))
  have hn30 : ni ≤ 30 ∧ nr ≤ 12 := hSh.2.2.1
  refine lv_aload_n hx hb dX3_addItem_0 rfl (lv_at hl 1 rfl) ?_
  refine lv_ifnull hx hb dX3_addItem_1 ?_
  refine lv_aload_n hx hb dX3_addItem_4 rfl (lv_at hl 1 rfl) ?_
  refine k_callV (nn := 0) (C := RX1) hC hG (pi jo) (hSh.2.2.2.1.1 jo hjo) (ci := 2) rfl (K_X1_isLeaf l hfl D cI cJ cZ cO z mi (ws) (pi jo) (ia jo) ((par jo).map ia) ((rt jo).map ra) (wa jo) (me jo) (va jo) (dn jo) (hSh.2.2.2.1.1 jo hjo)) gX3_addItem_X1_isLeaf rfl rfl (by decide +kernel) ⟨(Nat.le_of_ble_eq_true rfl), (Nat.le_of_ble_eq_true rfl)⟩ hl.1 rfl (Nat.le_of_ble_eq_true rfl) dX3_addItem_5 ⟨(Nat.le_of_ble_eq_true rfl), (Nat.le_of_ble_eq_true rfl)⟩ (fun _ _ _ _ _ _ hp => hp.elim) (fun v9 u9 H locs hp hG => ?_)
  obtain ⟨rfl, hu9⟩ := hp
  rw [hu9] at hG
  refine W.widen (k := 0) (n := 0) (Nat.le_of_ble_eq_true rfl) (Nat.le_of_ble_eq_true rfl) ?_
  refine W.eq (g2 := F0 m 8 ls [.int (kb ((rt jo).map ra).isSome)]) rfl ?_
  refine k_ifB_eq (tgt := 21) hx hb dX3_addItem_8 (by decide) (fun c_1 => ?_) (fun c_1 => ?_)
  · refine lv_aload_n hx hb dX3_addItem_21 rfl (lv_at hl 0 rfl) ?_
    refine k_get (C := RX3) (T := TX3) (N := 7) (ci := 4) (v := .ref li) (fs := [.ref hd, .ref lr, .ref li, .ref hpr, .int lim, .int ret, .long clm]) hC hG hi_RX3 ks hSh.1 rfl 2 (by decide) (List.mem_of_getElem? (i := 3) rfl) rfl rfl dX3_addItem_22 ?_
    refine k_callV (nn := 0) (C := RJx4a65c) hC hG kli hSh.2.2.2.2.2.2.1.1 (ci := 0) rfl (K_list_size l hfl D cI cJ cZ cO z mi (ws) kli li mci edi ni hSh.2.2.2.2.2.2.1.1) gX3_addItem_Jx4a65c_size_8abf5 rfl rfl (by decide +kernel) ⟨(Nat.le_of_ble_eq_true rfl), (Nat.le_of_ble_eq_true rfl)⟩ hl.1 rfl (Nat.le_of_ble_eq_true rfl) dX3_addItem_25 ⟨(Nat.le_of_ble_eq_true rfl), (Nat.le_of_ble_eq_true rfl)⟩ (fun _ _ _ _ _ _ hp => hp.elim) (fun v9 u9 H locs hp hG => ?_)
    obtain ⟨rfl, hu9⟩ := hp
    rw [hu9] at hG
    refine W.widen (k := 0) (n := 0) (Nat.le_of_ble_eq_true rfl) (Nat.le_of_ble_eq_true rfl) ?_
    refine W.eq (g2 := F0 m 28 ls [.int (nI ni)]) rfl ?_
    refine lv_bipush (v := 30) hx hb dX3_addItem_28 (by decide) ?_
    refine k_icmp_lt (tgt := 43) hx hb dX3_addItem_30 (by decide) (fun c_2 => ?_) (fun c_2 => ?_)
    · have h29 : ni < 30 := k_ltC (C := 30) rfl c_2 (by omega) (by omega)
      refine lv_aload_n hx hb dX3_addItem_43 rfl (lv_at hl 0 rfl) ?_
      refine k_get (C := RX3) (T := TX3) (N := 7) (ci := 4) (v := .ref li) (fs := [.ref hd, .ref lr, .ref li, .ref hpr, .int lim, .int ret, .long clm]) hC hG hi_RX3 ks hSh.1 rfl 2 (by decide) (List.mem_of_getElem? (i := 3) rfl) rfl rfl dX3_addItem_44 ?_
      refine k_new (C := RX1) (T := TX1) (N := 6) (ci := 2) (fs := [.null, .null, .int 0, .int 0, .int 0, .int 0]) hC hG hi_RX1 tyX1_ok (List.mem_of_getElem? (i := 4) rfl) (List.mem_of_getElem? (i := 5) rfl) (List.mem_of_getElem? (i := 6) rfl) rfl (fun j9 hj9 => match j9, hj9 with | 0, _ => rfl | 1, _ => rfl | 2, _ => rfl | 3, _ => rfl | 4, _ => rfl | 5, _ => rfl | n9 + 6, h9 => absurd h9 (by omega)) (Nat.le_of_ble_eq_true rfl) (Nat.le_of_ble_eq_true rfl) dX3_addItem_47 (fun qn H hG => ?_)
      refine W.widen (k := 1) (n := 6) (Nat.le_of_ble_eq_true rfl) (Nat.le_of_ble_eq_true rfl) ?_
      have hG : kG D A s (ws ++ [(qn, .inr (2, [.null, .null, .int 0, .int 0, .int 0, .int 0]))]) H locs := hG
      refine lv_dup hx hb dX3_addItem_50 rfl ?_
      refine lv_aload_n hx hb dX3_addItem_51 rfl (lv_at hl 1 rfl) ?_
      refine k_aload_nN hx hb dX3_addItem_52 rfl (lv_at hl 2 rfl) ?_
      refine lv_iload_n hx hb dX3_addItem_53 rfl (lv_at hl 3 rfl) ?_
      refine k_callI (nn := 3) hC hG (K_X1_init l hfl D cI cJ cZ cO z mi (ws ++ [(qn, .inr (2, [.null, .null, .int 0, .int 0, .int 0, .int 0]))]) ws.length qn (some (ia jo)) none 0 0 0 0 w9 (k_last _ _)) gX3_addItem_X1_init (List.mem_of_getElem? (i := 18) rfl) (List.mem_of_getElem? (i := 19) rfl) (List.mem_of_getElem? (i := 6) rfl) rfl rfl (by decide +kernel) ⟨(Nat.le_of_ble_eq_true rfl), (Nat.le_of_ble_eq_true rfl)⟩ hl.1 rfl (Nat.le_of_ble_eq_true rfl) dX3_addItem_54 ⟨(Nat.le_of_ble_eq_true rfl), (Nat.le_of_ble_eq_true rfl)⟩ (fun _ _ _ _ _ _ hp => hp.elim) (fun v9 u9 H locs hp hG => ?_)
      obtain ⟨rfl, hu9⟩ := hp
      rw [hu9, k_setlast] at hG
      have hG : kG D A s (ws ++ [(qn, .inr (2, [.ref (ia jo), .null, .int w9, .int 0, .int 0, .int 0]))]) H locs := hG
      refine W.widen (k := 1) (n := 6) (Nat.le_of_ble_eq_true rfl) (Nat.le_of_ble_eq_true rfl) ?_
      refine W.eq (g2 := F0 m 57 ls [.ref qn, .ref li]) rfl ?_
      have hLx : (ni = 0 ∧ edi = z) ∨ ((ws ++ [(qn, .inr (2, [.ref (ia jo), .null, .int w9, .int 0, .int 0, .int 0]))])[kei]? = some (edi, kOA cO leni gi) ∧ ni ≤ leni ∧ kLn leni ∧ 0 < ni) := hSh.2.2.2.2.2.2.1.2.imp (fun e => ⟨e.1, e.2.1⟩) (fun e => ⟨k_fst e.1, e.2.1, e.2.2.1, e.2.2.2.1⟩)
      have hEx : kHE (ws ++ [(qn, .inr (2, [.ref (ia jo), .null, .int w9, .int 0, .int 0, .int 0]))]) ni 2 gi := fun i hi y hy => by
        rw [(kLP.arr hSh.2.2.2.2.2.2.1 hi).2.2.2 i hi] at hy
        cases hy
        exact ⟨pi i, _, k_fst (hSh.2.2.2.1.1 i hi)⟩
      have hq : ∀ j, j < ni → ia j ≠ qn := fun j hj e => by
        have h1 := hG.2.1.1 (pi j) ws.length _ _ (k_fst (hSh.2.2.2.1.1 j hj)) (k_last _ _) e
        have h2 := k_len (hSh.2.2.2.1.1 j hj)
        omega
      have hnk : ws.length ≠ kli := by have := (kLP_len hSh.2.2.2.2.2.2.1).1; omega
      refine k_callV (nn := 1) (C := RJx4a65c) hC hG kli (k_fst hSh.2.2.2.2.2.2.1.1) (ci := 0) rfl (K_list_add l hfl D cI cJ cZ cO z mi (ws ++ [(qn, .inr (2, [.ref (ia jo), .null, .int w9, .int 0, .int 0, .int 0]))]) kli kei li mci edi ni leni gi 2 6 RX1 TX1 rfl (List.mem_of_getElem? (i := 3) rfl) (k_fst hSh.2.2.2.2.2.2.1.1) hLx hEx ws.length qn _ (k_last _ _) hnk (by omega) (by decide)) gX3_addItem_Jx4a65c_add_9ea2d rfl rfl (by decide +kernel) ⟨(Nat.le_of_ble_eq_true rfl), (Nat.le_of_ble_eq_true rfl)⟩ hl.1 rfl (Nat.le_of_ble_eq_true rfl) dX3_addItem_57 ⟨(Nat.le_of_ble_eq_true rfl), (Nat.le_of_ble_eq_true rfl)⟩ (fun _ _ _ _ _ _ hp => hp.elim) (fun v9 u9 H locs hp hG => ?_)
      obtain ⟨rfl, hu9⟩ := hp
      obtain ⟨ke', ed', len', g', hS', hF'⟩ := kSh_addI hSh (by omega) (o := some jo) (fun k hk => by cases hk; exact hjo) (r := none) (fun k hk => by cases hk) hq hu9
      refine W.widen (k := 2) (n := 66) (Nat.le_of_ble_eq_true rfl) (Nat.le_of_ble_eq_true rfl) ?_
      refine W.eq (g2 := F0 m 60 ls [.int 1]) rfl ?_
      refine lv_pop hx hb dX3_addItem_60 rfl ?_
      refine lv_aload_n hx hb dX3_addItem_61 rfl (lv_at hl 0 rfl) ?_
      refine k_get (C := RX3) (T := TX3) (N := 7) (ci := 4) (v := .ref li) (fs := [.ref hd, .ref lr, .ref li, .ref hpr, .int lim, .int ret, .long clm]) hC hG hi_RX3 ks hS'.1 rfl 2 (by decide) (List.mem_of_getElem? (i := 3) rfl) rfl rfl dX3_addItem_62 ?_
      refine k_callV (nn := 0) (C := RJx4a65c) hC hG kli hS'.2.2.2.2.2.2.1.1 (ci := 0) rfl (K_list_size l hfl D cI cJ cZ cO z mi (u9) kli li (mci + 1) ed' (ni + 1) hS'.2.2.2.2.2.2.1.1) gX3_addItem_Jx4a65c_size_8abf5 rfl rfl (by decide +kernel) ⟨(Nat.le_of_ble_eq_true rfl), (Nat.le_of_ble_eq_true rfl)⟩ hl.1 rfl (Nat.le_of_ble_eq_true rfl) dX3_addItem_65 ⟨(Nat.le_of_ble_eq_true rfl), (Nat.le_of_ble_eq_true rfl)⟩ (fun _ _ _ _ _ _ hp => hp.elim) (fun v9 u9 H locs hp hG => ?_)
      obtain ⟨rfl, hu9⟩ := hp
      rw [hu9] at hG
      refine W.widen (k := 2) (n := 66) (Nat.le_of_ble_eq_true rfl) (Nat.le_of_ble_eq_true rfl) ?_
      refine W.eq (g2 := F0 m 68 ls [.int (nI (ni + 1))]) rfl ?_
      refine lv_iconst (v := 1) hx hb dX3_addItem_68 (by decide) ?_
      refine lv_isub hx hb dX3_addItem_69 ?_
      refine k_topi (y := nI ni) (nI_pred _) ?_
      exact k_reti hC hr hG ⟨rfl, ⟨_, _, ke', ed', len', _, g', hS', hF'⟩, (by show (!(rt jo).isSome) = true; rw [← k_isSm (rt jo) ra, c_1]; rfl), c_2⟩ (Nat.le_of_ble_eq_true rfl) (Nat.le_of_ble_eq_true rfl) dX3_addItem_70
    · exact k_throw (text := "no room for an item") (is := 205) (ic := 60) (cls := "java/lang/IllegalStateException") hC hG rfl (by decide +kernel) (List.mem_of_getElem? (i := 1) rfl) (List.mem_of_getElem? (i := 2) rfl) (by decide) (fun w h => List.mem_cons_of_mem _ (List.mem_append_right _ h)) (by decide +kernel) (by decide +kernel) hl.1 dX3_addItem_33 dX3_addItem_36 dX3_addItem_37 dX3_addItem_39 dX3_addItem_42 ⟨(Nat.le_of_ble_eq_true rfl), (Nat.le_of_ble_eq_true rfl)⟩ ⟨(Nat.le_of_ble_eq_true rfl), (Nat.le_of_ble_eq_true rfl)⟩ ⟨(Nat.le_of_ble_eq_true rfl), (Nat.le_of_ble_eq_true rfl)⟩ (⟨rfl, Or.inr ⟨rfl, (by show (!(rt jo).isSome) = true; rw [← k_isSm (rt jo) ra, c_1]; rfl), c_2⟩⟩)
  · exact k_throw (text := "the parent is a leaf") (is := 203) (ic := 60) (cls := "java/lang/IllegalStateException") hC hG rfl (by decide +kernel) (List.mem_of_getElem? (i := 1) rfl) (List.mem_of_getElem? (i := 2) rfl) (by decide) (fun w h => List.mem_cons_of_mem _ (List.mem_append_right _ h)) (by decide +kernel) (by decide +kernel) hl.1 dX3_addItem_11 dX3_addItem_14 dX3_addItem_15 dX3_addItem_17 dX3_addItem_20 ⟨(Nat.le_of_ble_eq_true rfl), (Nat.le_of_ble_eq_true rfl)⟩ ⟨(Nat.le_of_ble_eq_true rfl), (Nat.le_of_ble_eq_true rfl)⟩ ⟨(Nat.le_of_ble_eq_true rfl), (Nat.le_of_ble_eq_true rfl)⟩ (⟨rfl, Or.inl ⟨rfl, by show (!(rt jo).isSome) = false; rw [← k_isSm (rt jo) ra, c_1]; rfl⟩⟩)

set_option maxHeartbeats 4000000 in
set_option maxRecDepth 100000 in
/-- addItem -/
theorem K_X3_addItem_SS (l : Launch) (hfl : l.stackTraces = false) (D : va_G) (cI cJ cZ cO : ClassId) (z mi : Nat) (ws : va_W) (ks : Nat) (hs : Nat) (hd : Nat) (lr : Nat) (li : Nat) (hpr : Nat) (kp : Nat) (lim : Int32) (ret : Int32) (clm : Int64) (fP : Nat → Int32) (ni : Nat) (ia : Nat → Nat) (pi : Nat → Nat) (par : Nat → Option Nat) (rt : Nat → Option Nat) (ra : Nat → Nat) (wa : Nat → Int32) (me : Nat → Int32) (va : Nat → Int32) (dn : Nat → Int32) (nr : Nat) (pr : Nat → Nat) (fA : Nat → Int32) (kli : Nat) (kei : Nat) (edi : Nat) (leni : Nat) (mci : Int32) (gi : Nat → Option Nat) (klr : Nat) (ker : Nat) (edr : Nat) (lenr : Nat) (mcr : Int32) (gr : Nat → Option Nat) (hSh : kSh cI cO z ws ks hs hd lr li hpr kp lim ret clm fP ni ia pi par rt ra wa me va dn nr pr fA kli kei edi leni mci gi klr ker edr lenr mcr gr)  (jo : Nat) (hjo : jo < ni) (jr : Nat) (hjr : jr < nr) (w9 : Int32) : kM l D (kTy cI cJ cZ cO) z mi yX3_addItem wsX3_addItem ({ frames := 7, cells := 4, slots := 80, locals := 300 } : Room) [.ref hs, .ref (ia jo), .ref (ra jr), .int w9] (ws) (fun v u => v = some (.int (nI ni)) ∧ kNewI cI cO z ws ks hs hd lr li hpr kp lim ret clm fP ni ia pi par rt ra wa me va dn nr pr fA kli kei edi leni mci gi klr ker edr lenr mcr gr (some jo) (some jr) w9 u ∧ (kNl rt (some jo)) = true ∧ (decide ((nI ni) < 30)) = true) (fun E u => u = ws ∧ ((E = kISE ∧ (kNl rt (some jo)) = false) ∨ (E = kISE ∧ (kNl rt (some jo)) = true ∧ (decide ((nI ni) < 30)) = false))) := by
  refine kM.of hfl (cc := cX3_addItem) (maxL := 4) (ret := (some .int)) (by decide) rfl (Nat.le_of_ble_eq_true rfl) ?_
  intro p e s m args below meth c A ls hC hr hmn hG hl
  have hx := hC.x
  have hb := hC.b
  have hl : lv_has ls 4 [(0, .ref hs), (1, .ref (ia jo)), (2, .ref (ra jr)), (3, .int w9)] := hl
  have hi_RX1 : ∀ w ∈ wsX10, w ∈ wsX3_addItem := fun w h => List.mem_cons_of_mem _ (List.mem_append_left _ (List.mem_append_left _ (List.mem_append_right _ h)))
  have hi_RX3 : ∀ w ∈ wsX30, w ∈ wsX3_addItem := fun w h => List.mem_cons_of_mem _ (List.mem_append_left _ (List.mem_append_left _ (List.mem_append_left _ (List.mem_append_right _ h))))
  have hn30 : ni ≤ 30 ∧ nr ≤ 12 := hSh.2.2.1
  refine lv_aload_n hx hb dX3_addItem_0 rfl (lv_at hl 1 rfl) ?_
  refine lv_ifnull hx hb dX3_addItem_1 ?_
  refine lv_aload_n hx hb dX3_addItem_4 rfl (lv_at hl 1 rfl) ?_
  refine k_callV (nn := 0) (C := RX1) hC hG (pi jo) (hSh.2.2.2.1.1 jo hjo) (ci := 2) rfl (K_X1_isLeaf l hfl D cI cJ cZ cO z mi (ws) (pi jo) (ia jo) ((par jo).map ia) ((rt jo).map ra) (wa jo) (me jo) (va jo) (dn jo) (hSh.2.2.2.1.1 jo hjo)) gX3_addItem_X1_isLeaf rfl rfl (by decide +kernel) ⟨(Nat.le_of_ble_eq_true rfl), (Nat.le_of_ble_eq_true rfl)⟩ hl.1 rfl (Nat.le_of_ble_eq_true rfl) dX3_addItem_5 ⟨(Nat.le_of_ble_eq_true rfl), (Nat.le_of_ble_eq_true rfl)⟩ (fun _ _ _ _ _ _ hp => hp.elim) (fun v9 u9 H locs hp hG => ?_)
  obtain ⟨rfl, hu9⟩ := hp
  rw [hu9] at hG
  refine W.widen (k := 0) (n := 0) (Nat.le_of_ble_eq_true rfl) (Nat.le_of_ble_eq_true rfl) ?_
  refine W.eq (g2 := F0 m 8 ls [.int (kb ((rt jo).map ra).isSome)]) rfl ?_
  refine k_ifB_eq (tgt := 21) hx hb dX3_addItem_8 (by decide) (fun c_1 => ?_) (fun c_1 => ?_)
  · refine lv_aload_n hx hb dX3_addItem_21 rfl (lv_at hl 0 rfl) ?_
    refine k_get (C := RX3) (T := TX3) (N := 7) (ci := 4) (v := .ref li) (fs := [.ref hd, .ref lr, .ref li, .ref hpr, .int lim, .int ret, .long clm]) hC hG hi_RX3 ks hSh.1 rfl 2 (by decide) (List.mem_of_getElem? (i := 3) rfl) rfl rfl dX3_addItem_22 ?_
    refine k_callV (nn := 0) (C := RJx4a65c) hC hG kli hSh.2.2.2.2.2.2.1.1 (ci := 0) rfl (K_list_size l hfl D cI cJ cZ cO z mi (ws) kli li mci edi ni hSh.2.2.2.2.2.2.1.1) gX3_addItem_Jx4a65c_size_8abf5 rfl rfl (by decide +kernel) ⟨(Nat.le_of_ble_eq_true rfl), (Nat.le_of_ble_eq_true rfl)⟩ hl.1 rfl (Nat.le_of_ble_eq_true rfl) dX3_addItem_25 ⟨(Nat.le_of_ble_eq_true rfl), (Nat.le_of_ble_eq_true rfl)⟩ (fun _ _ _ _ _ _ hp => hp.elim) (fun v9 u9 H locs hp hG => ?_)
    obtain ⟨rfl, hu9⟩ := hp
    rw [hu9] at hG
    refine W.widen (k := 0) (n := 0) (Nat.le_of_ble_eq_true rfl) (Nat.le_of_ble_eq_true rfl) ?_
    refine W.eq (g2 := F0 m 28 ls [.int (nI ni)]) rfl ?_
    refine lv_bipush (v := 30) hx hb dX3_addItem_28 (by decide) ?_
    refine k_icmp_lt (tgt := 43) hx hb dX3_addItem_30 (by decide) (fun c_2 => ?_) (fun c_2 => ?_)
    · have h29 : ni < 30 := k_ltC (C := 30) rfl c_2 (by omega) (by omega)
      refine lv_aload_n hx hb dX3_addItem_43 rfl (lv_at hl 0 rfl) ?_
      refine k_get (C := RX3) (T := TX3) (N := 7) (ci := 4) (v := .ref li) (fs := [.ref hd, .ref lr, .ref li, .ref hpr, .int lim, .int ret, .long clm]) hC hG hi_RX3 ks hSh.1 rfl 2 (by decide) (List.mem_of_getElem? (i := 3) rfl) rfl rfl dX3_addItem_44 ?_
      refine k_new (C := RX1) (T := TX1) (N := 6) (ci := 2) (fs := [.null, .null, .int 0, .int 0, .int 0, .int 0]) hC hG hi_RX1 tyX1_ok (List.mem_of_getElem? (i := 4) rfl) (List.mem_of_getElem? (i := 5) rfl) (List.mem_of_getElem? (i := 6) rfl) rfl (fun j9 hj9 => match j9, hj9 with | 0, _ => rfl | 1, _ => rfl | 2, _ => rfl | 3, _ => rfl | 4, _ => rfl | 5, _ => rfl | n9 + 6, h9 => absurd h9 (by omega)) (Nat.le_of_ble_eq_true rfl) (Nat.le_of_ble_eq_true rfl) dX3_addItem_47 (fun qn H hG => ?_)
      refine W.widen (k := 1) (n := 6) (Nat.le_of_ble_eq_true rfl) (Nat.le_of_ble_eq_true rfl) ?_
      have hG : kG D A s (ws ++ [(qn, .inr (2, [.null, .null, .int 0, .int 0, .int 0, .int 0]))]) H locs := hG
      refine lv_dup hx hb dX3_addItem_50 rfl ?_
      refine lv_aload_n hx hb dX3_addItem_51 rfl (lv_at hl 1 rfl) ?_
      refine lv_aload_n hx hb dX3_addItem_52 rfl (lv_at hl 2 rfl) ?_
      refine lv_iload_n hx hb dX3_addItem_53 rfl (lv_at hl 3 rfl) ?_
      refine k_callI (nn := 3) hC hG (K_X1_init l hfl D cI cJ cZ cO z mi (ws ++ [(qn, .inr (2, [.null, .null, .int 0, .int 0, .int 0, .int 0]))]) ws.length qn (some (ia jo)) (some (ra jr)) 0 0 0 0 w9 (k_last _ _)) gX3_addItem_X1_init (List.mem_of_getElem? (i := 18) rfl) (List.mem_of_getElem? (i := 19) rfl) (List.mem_of_getElem? (i := 6) rfl) rfl rfl (by decide +kernel) ⟨(Nat.le_of_ble_eq_true rfl), (Nat.le_of_ble_eq_true rfl)⟩ hl.1 rfl (Nat.le_of_ble_eq_true rfl) dX3_addItem_54 ⟨(Nat.le_of_ble_eq_true rfl), (Nat.le_of_ble_eq_true rfl)⟩ (fun _ _ _ _ _ _ hp => hp.elim) (fun v9 u9 H locs hp hG => ?_)
      obtain ⟨rfl, hu9⟩ := hp
      rw [hu9, k_setlast] at hG
      have hG : kG D A s (ws ++ [(qn, .inr (2, [.ref (ia jo), .ref (ra jr), .int w9, .int 0, .int 0, .int 0]))]) H locs := hG
      refine W.widen (k := 1) (n := 6) (Nat.le_of_ble_eq_true rfl) (Nat.le_of_ble_eq_true rfl) ?_
      refine W.eq (g2 := F0 m 57 ls [.ref qn, .ref li]) rfl ?_
      have hLx : (ni = 0 ∧ edi = z) ∨ ((ws ++ [(qn, .inr (2, [.ref (ia jo), .ref (ra jr), .int w9, .int 0, .int 0, .int 0]))])[kei]? = some (edi, kOA cO leni gi) ∧ ni ≤ leni ∧ kLn leni ∧ 0 < ni) := hSh.2.2.2.2.2.2.1.2.imp (fun e => ⟨e.1, e.2.1⟩) (fun e => ⟨k_fst e.1, e.2.1, e.2.2.1, e.2.2.2.1⟩)
      have hEx : kHE (ws ++ [(qn, .inr (2, [.ref (ia jo), .ref (ra jr), .int w9, .int 0, .int 0, .int 0]))]) ni 2 gi := fun i hi y hy => by
        rw [(kLP.arr hSh.2.2.2.2.2.2.1 hi).2.2.2 i hi] at hy
        cases hy
        exact ⟨pi i, _, k_fst (hSh.2.2.2.1.1 i hi)⟩
      have hq : ∀ j, j < ni → ia j ≠ qn := fun j hj e => by
        have h1 := hG.2.1.1 (pi j) ws.length _ _ (k_fst (hSh.2.2.2.1.1 j hj)) (k_last _ _) e
        have h2 := k_len (hSh.2.2.2.1.1 j hj)
        omega
      have hnk : ws.length ≠ kli := by have := (kLP_len hSh.2.2.2.2.2.2.1).1; omega
      refine k_callV (nn := 1) (C := RJx4a65c) hC hG kli (k_fst hSh.2.2.2.2.2.2.1.1) (ci := 0) rfl (K_list_add l hfl D cI cJ cZ cO z mi (ws ++ [(qn, .inr (2, [.ref (ia jo), .ref (ra jr), .int w9, .int 0, .int 0, .int 0]))]) kli kei li mci edi ni leni gi 2 6 RX1 TX1 rfl (List.mem_of_getElem? (i := 3) rfl) (k_fst hSh.2.2.2.2.2.2.1.1) hLx hEx ws.length qn _ (k_last _ _) hnk (by omega) (by decide)) gX3_addItem_Jx4a65c_add_9ea2d rfl rfl (by decide +kernel) ⟨(Nat.le_of_ble_eq_true rfl), (Nat.le_of_ble_eq_true rfl)⟩ hl.1 rfl (Nat.le_of_ble_eq_true rfl) dX3_addItem_57 ⟨(Nat.le_of_ble_eq_true rfl), (Nat.le_of_ble_eq_true rfl)⟩ (fun _ _ _ _ _ _ hp => hp.elim) (fun v9 u9 H locs hp hG => ?_)
      obtain ⟨rfl, hu9⟩ := hp
      obtain ⟨ke', ed', len', g', hS', hF'⟩ := kSh_addI hSh (by omega) (o := some jo) (fun k hk => by cases hk; exact hjo) (r := some jr) (fun k hk => by cases hk; exact hjr) hq hu9
      refine W.widen (k := 2) (n := 66) (Nat.le_of_ble_eq_true rfl) (Nat.le_of_ble_eq_true rfl) ?_
      refine W.eq (g2 := F0 m 60 ls [.int 1]) rfl ?_
      refine lv_pop hx hb dX3_addItem_60 rfl ?_
      refine lv_aload_n hx hb dX3_addItem_61 rfl (lv_at hl 0 rfl) ?_
      refine k_get (C := RX3) (T := TX3) (N := 7) (ci := 4) (v := .ref li) (fs := [.ref hd, .ref lr, .ref li, .ref hpr, .int lim, .int ret, .long clm]) hC hG hi_RX3 ks hS'.1 rfl 2 (by decide) (List.mem_of_getElem? (i := 3) rfl) rfl rfl dX3_addItem_62 ?_
      refine k_callV (nn := 0) (C := RJx4a65c) hC hG kli hS'.2.2.2.2.2.2.1.1 (ci := 0) rfl (K_list_size l hfl D cI cJ cZ cO z mi (u9) kli li (mci + 1) ed' (ni + 1) hS'.2.2.2.2.2.2.1.1) gX3_addItem_Jx4a65c_size_8abf5 rfl rfl (by decide +kernel) ⟨(Nat.le_of_ble_eq_true rfl), (Nat.le_of_ble_eq_true rfl)⟩ hl.1 rfl (Nat.le_of_ble_eq_true rfl) dX3_addItem_65 ⟨(Nat.le_of_ble_eq_true rfl), (Nat.le_of_ble_eq_true rfl)⟩ (fun _ _ _ _ _ _ hp => hp.elim) (fun v9 u9 H locs hp hG => ?_)
      obtain ⟨rfl, hu9⟩ := hp
      rw [hu9] at hG
      refine W.widen (k := 2) (n := 66) (Nat.le_of_ble_eq_true rfl) (Nat.le_of_ble_eq_true rfl) ?_
      refine W.eq (g2 := F0 m 68 ls [.int (nI (ni + 1))]) rfl ?_
      refine lv_iconst (v := 1) hx hb dX3_addItem_68 (by decide) ?_
      refine lv_isub hx hb dX3_addItem_69 ?_
      refine k_topi (y := nI ni) (nI_pred _) ?_
      exact k_reti hC hr hG ⟨rfl, ⟨_, _, ke', ed', len', _, g', hS', hF'⟩, (by show (!(rt jo).isSome) = true; rw [← k_isSm (rt jo) ra, c_1]; rfl), c_2⟩ (Nat.le_of_ble_eq_true rfl) (Nat.le_of_ble_eq_true rfl) dX3_addItem_70
    · exact k_throw (text := "no room for an item") (is := 205) (ic := 60) (cls := "java/lang/IllegalStateException") hC hG rfl (by decide +kernel) (List.mem_of_getElem? (i := 1) rfl) (List.mem_of_getElem? (i := 2) rfl) (by decide) (fun w h => List.mem_cons_of_mem _ (List.mem_append_right _ h)) (by decide +kernel) (by decide +kernel) hl.1 dX3_addItem_33 dX3_addItem_36 dX3_addItem_37 dX3_addItem_39 dX3_addItem_42 ⟨(Nat.le_of_ble_eq_true rfl), (Nat.le_of_ble_eq_true rfl)⟩ ⟨(Nat.le_of_ble_eq_true rfl), (Nat.le_of_ble_eq_true rfl)⟩ ⟨(Nat.le_of_ble_eq_true rfl), (Nat.le_of_ble_eq_true rfl)⟩ (⟨rfl, Or.inr ⟨rfl, (by show (!(rt jo).isSome) = true; rw [← k_isSm (rt jo) ra, c_1]; rfl), c_2⟩⟩)
  · exact k_throw (text := "the parent is a leaf") (is := 203) (ic := 60) (cls := "java/lang/IllegalStateException") hC hG rfl (by decide +kernel) (List.mem_of_getElem? (i := 1) rfl) (List.mem_of_getElem? (i := 2) rfl) (by decide) (fun w h => List.mem_cons_of_mem _ (List.mem_append_right _ h)) (by decide +kernel) (by decide +kernel) hl.1 dX3_addItem_11 dX3_addItem_14 dX3_addItem_15 dX3_addItem_17 dX3_addItem_20 ⟨(Nat.le_of_ble_eq_true rfl), (Nat.le_of_ble_eq_true rfl)⟩ ⟨(Nat.le_of_ble_eq_true rfl), (Nat.le_of_ble_eq_true rfl)⟩ ⟨(Nat.le_of_ble_eq_true rfl), (Nat.le_of_ble_eq_true rfl)⟩ (⟨rfl, Or.inl ⟨rfl, by show (!(rt jo).isSome) = false; rw [← k_isSm (rt jo) ra, c_1]; rfl⟩⟩)

theorem K_X3_addItem (l : Launch) (hfl : l.stackTraces = false) (D : va_G) (cI cJ cZ cO : ClassId) (z mi : Nat) (ws : va_W) (ks : Nat) (hs : Nat) (hd : Nat) (lr : Nat) (li : Nat) (hpr : Nat) (kp : Nat) (lim : Int32) (ret : Int32) (clm : Int64) (fP : Nat → Int32) (ni : Nat) (ia : Nat → Nat) (pi : Nat → Nat) (par : Nat → Option Nat) (rt : Nat → Option Nat) (ra : Nat → Nat) (wa : Nat → Int32) (me : Nat → Int32) (va : Nat → Int32) (dn : Nat → Int32) (nr : Nat) (pr : Nat → Nat) (fA : Nat → Int32) (kli : Nat) (kei : Nat) (edi : Nat) (leni : Nat) (mci : Int32) (gi : Nat → Option Nat) (klr : Nat) (ker : Nat) (edr : Nat) (lenr : Nat) (mcr : Int32) (gr : Nat → Option Nat) (hSh : kSh cI cO z ws ks hs hd lr li hpr kp lim ret clm fP ni ia pi par rt ra wa me va dn nr pr fA kli kei edi leni mci gi klr ker edr lenr mcr gr) (o r : Option Nat) (ho : ∀ k, o = some k → k < ni) (hr : ∀ k, r = some k → k < nr) (w9 : Int32) : kM l D (kTy cI cJ cZ cO) z mi yX3_addItem wsX3_addItem ({ frames := 7, cells := 4, slots := 80, locals := 300 } : Room) [.ref hs, va_rf (o.map ia), va_rf (r.map ra), .int w9] ws (fun v u => v = some (.int (nI ni)) ∧ kNewI cI cO z ws ks hs hd lr li hpr kp lim ret clm fP ni ia pi par rt ra wa me va dn nr pr fA kli kei edi leni mci gi klr ker edr lenr mcr gr o r w9 u ∧ (kNl rt o) = true ∧ (decide ((nI ni) < 30)) = true) (fun E u => u = ws ∧ ((E = kISE ∧ (kNl rt o) = false) ∨ (E = kISE ∧ (kNl rt o) = true ∧ (decide ((nI ni) < 30)) = false))) := by
  cases o with
  | none => cases r with
    | none => exact K_X3_addItem_NN l hfl D cI cJ cZ cO z mi ws ks hs hd lr li hpr kp lim ret clm fP ni ia pi par rt ra wa me va dn nr pr fA kli kei edi leni mci gi klr ker edr lenr mcr gr hSh w9
    | some jr => exact K_X3_addItem_NS l hfl D cI cJ cZ cO z mi ws ks hs hd lr li hpr kp lim ret clm fP ni ia pi par rt ra wa me va dn nr pr fA kli kei edi leni mci gi klr ker edr lenr mcr gr hSh jr (hr jr rfl) w9
  | some jo => cases r with
    | none => exact K_X3_addItem_SN l hfl D cI cJ cZ cO z mi ws ks hs hd lr li hpr kp lim ret clm fP ni ia pi par rt ra wa me va dn nr pr fA kli kei edi leni mci gi klr ker edr lenr mcr gr hSh jo (ho jo rfl) w9
    | some jr => exact K_X3_addItem_SS l hfl D cI cJ cZ cO z mi ws ks hs hd lr li hpr kp lim ret clm fP ni ia pi par rt ra wa me va dn nr pr fA kli kei edi leni mci gi klr ker edr lenr mcr gr hSh jo (ho jo rfl) jr (hr jr rfl) w9

