/-- rate j has these amounts; none of the first n has them; there is one, or room for one -/
def kRe (fA : Nat → Int32) (l9 p9 m9 : Int32) (j : Nat) : Bool := decide (fA (3 * j) = l9) && (decide (fA (3 * j + 1) = p9) && decide (fA (3 * j + 2) = m9))
def kNoR (fA : Nat → Int32) (l9 p9 m9 : Int32) : Nat → Bool
  | 0 => true
  | n + 1 => kNoR fA l9 p9 m9 n && !kRe fA l9 p9 m9 n
def kRok (fA : Nat → Int32) (l9 p9 m9 : Int32) (n : Nat) : Bool := !kNoR fA l9 p9 m9 n || decide (nI n < 12)
theorem kNoR_at {fA : Nat → Int32} {l9 p9 m9 : Int32} : ∀ {n j : Nat}, kNoR fA l9 p9 m9 n = true → j < n → kRe fA l9 p9 m9 j = false
  | 0, _, _, hj => absurd hj (Nat.not_lt_zero _)
  | n + 1, j, h, hj => by
    have h1 : (kNoR fA l9 p9 m9 n && !kRe fA l9 p9 m9 n) = true := h
    by_cases e : j = n
    · rw [e]; exact k_notf (k_andr h1)
    · exact kNoR_at (k_andl h1) (by omega)
theorem kNoR_f {fA : Nat → Int32} {l9 p9 m9 : Int32} {n j : Nat} (hj : j < n) (h : kRe fA l9 p9 m9 j = true) : kNoR fA l9 p9 m9 n = false := by
  cases hc : kNoR fA l9 p9 m9 n with
  | false => rfl
  | true => exact absurd ((kNoR_at hc hj).symm.trans h) (by decide)

set_option maxHeartbeats 4000000 in
set_option maxRecDepth 100000 in
/-- rate -/
theorem K_X3_rate (l : Launch) (hfl : l.stackTraces = false) (D : va_G) (cI cJ cZ cO : ClassId) (z mi : Nat) (ws : va_W) (ks : Nat) (hs : Nat) (hd : Nat) (lr : Nat) (li : Nat) (hpr : Nat) (kp : Nat) (lim : Int32) (ret : Int32) (clm : Int64) (fP : Nat → Int32) (ni : Nat) (ia : Nat → Nat) (pi : Nat → Nat) (par : Nat → Option Nat) (rt : Nat → Option Nat) (ra : Nat → Nat) (wa : Nat → Int32) (me : Nat → Int32) (va : Nat → Int32) (dn : Nat → Int32) (nr : Nat) (pr : Nat → Nat) (fA : Nat → Int32) (kli : Nat) (kei : Nat) (edi : Nat) (leni : Nat) (mci : Int32) (gi : Nat → Option Nat) (klr : Nat) (ker : Nat) (edr : Nat) (lenr : Nat) (mcr : Int32) (gr : Nat → Option Nat) (hSh : kSh cI cO z ws ks hs hd lr li hpr kp lim ret clm fP ni ia pi par rt ra wa me va dn nr pr fA kli kei edi leni mci gi klr ker edr lenr mcr gr) (l9 p9 m9 : Int32) : kM l D (kTy cI cJ cZ cO) z mi yX3_rate wsX3_rate ({ frames := 7, cells := 6, slots := 120, locals := 300 } : Room) [.ref hs, .int l9, .int p9, .int m9] (ws) (fun v u => ((∃ j, j < nr ∧ kRe fA l9 p9 m9 j = true ∧ v = some (.int (nI j)) ∧ u = ws) ∨ (kNoR fA l9 p9 m9 nr = true ∧ v = some (.int (nI nr)) ∧ kNewR cI cO z ws ks hs hd lr li hpr kp lim ret clm fP ni ia pi par rt ra wa me va dn nr pr fA kli kei edi leni mci gi klr ker edr lenr mcr gr l9 p9 m9 u)) ∧ (kIn l9 0 50) = true ∧ (kIn p9 0 50) = true ∧ (kIn m9 0 50) = true ∧ (kRok fA l9 p9 m9 nr) = true) (fun E u => u = ws ∧ ((E = kIAE ∧ (kIn l9 0 50) = false) ∨ ((E = kIAE ∧ (kIn l9 0 50) = true ∧ (kIn p9 0 50) = false) ∨ ((E = kIAE ∧ (kIn l9 0 50) = true ∧ (kIn p9 0 50) = true ∧ (kIn m9 0 50) = false) ∨ (E = kISE ∧ (kIn l9 0 50) = true ∧ (kIn p9 0 50) = true ∧ (kIn m9 0 50) = true ∧ (kRok fA l9 p9 m9 nr) = false))))) := by
  refine kM.of hfl (cc := cX3_rate) (maxL := 5) (ret := (some .int)) (by decide) rfl (Nat.le_of_ble_eq_true rfl) ?_
  intro p e s m args below meth c A ls hC hr hmn hG hl
  have hx := hC.x
  have hb := hC.b
  have hl : lv_has ls 5 [(0, .ref hs), (1, .int l9), (2, .int p9), (3, .int m9)] := hl
  have hi_RX2 : ∀ w ∈ wsX20, w ∈ wsX3_rate := fun w h => List.mem_cons_of_mem _ (List.mem_append_left _ (List.mem_append_left _ (List.mem_append_left _ (List.mem_append_right _ h))))
  have hi_RX3 : ∀ w ∈ wsX30, w ∈ wsX3_rate := fun w h => List.mem_cons_of_mem _ (List.mem_append_left _ (List.mem_append_left _ (List.mem_append_left _ (List.mem_append_left _ (List.mem_append_right _ h)))))
  have hn30 : ni ≤ 30 ∧ nr ≤ 12 := hSh.2.2.1
  refine lv_iload_n hx hb dX3_rate_0 rfl (lv_at hl 1 rfl) ?_
  refine lv_iconst (v := 0) hx hb dX3_rate_1 (by decide) ?_
  refine lv_bipush (v := 50) hx hb dX3_rate_2 (by decide) ?_
  refine k_callS (nn := 3) hC hG (K_X3_checkRange l hfl D cI cJ cZ cO z mi (ws) l9 0 50) gX3_rate_X3_checkRange rfl rfl (by decide +kernel) ⟨(Nat.le_of_ble_eq_true rfl), (Nat.le_of_ble_eq_true rfl)⟩ hl.1 rfl (Nat.le_of_ble_eq_true rfl) dX3_rate_4 ⟨(Nat.le_of_ble_eq_true rfl), (Nat.le_of_ble_eq_true rfl)⟩ (fun E9 ce9 q9 u9 H9 locs9 hp9 hG9 h91 h92 h93 => k_out hC hG9 h91 h92 h93 (by obtain ⟨rfl, hu8, h99⟩ := hp9; rw [hu8]; exact ⟨rfl, Or.inl ⟨rfl, h99⟩⟩) (Nat.le_of_ble_eq_true rfl) (Nat.le_of_ble_eq_true rfl)) (fun v9 u9 H locs hp hG => ?_)
  obtain ⟨rfl, hu9, hr1⟩ := hp
  rw [hu9] at hG
  refine W.widen (k := 1) (n := 6) (Nat.le_of_ble_eq_true rfl) (Nat.le_of_ble_eq_true rfl) ?_
  refine W.eq (g2 := F0 m 7 ls []) rfl ?_
  refine lv_iload_n hx hb dX3_rate_7 rfl (lv_at hl 2 rfl) ?_
  refine lv_iconst (v := 0) hx hb dX3_rate_8 (by decide) ?_
  refine lv_bipush (v := 50) hx hb dX3_rate_9 (by decide) ?_
  refine k_callS (nn := 3) hC hG (K_X3_checkRange l hfl D cI cJ cZ cO z mi (ws) p9 0 50) gX3_rate_X3_checkRange rfl rfl (by decide +kernel) ⟨(Nat.le_of_ble_eq_true rfl), (Nat.le_of_ble_eq_true rfl)⟩ hl.1 rfl (Nat.le_of_ble_eq_true rfl) dX3_rate_11 ⟨(Nat.le_of_ble_eq_true rfl), (Nat.le_of_ble_eq_true rfl)⟩ (fun E9 ce9 q9 u9 H9 locs9 hp9 hG9 h91 h92 h93 => k_out hC hG9 h91 h92 h93 (by obtain ⟨rfl, hu8, h99⟩ := hp9; rw [hu8]; exact ⟨rfl, Or.inr (Or.inl ⟨rfl, hr1, h99⟩)⟩) (Nat.le_of_ble_eq_true rfl) (Nat.le_of_ble_eq_true rfl)) (fun v9 u9 H locs hp hG => ?_)
  obtain ⟨rfl, hu9, hr2⟩ := hp
  rw [hu9] at hG
  refine W.widen (k := 2) (n := 12) (Nat.le_of_ble_eq_true rfl) (Nat.le_of_ble_eq_true rfl) ?_
  refine W.eq (g2 := F0 m 14 ls []) rfl ?_
  refine lv_iload_n hx hb dX3_rate_14 rfl (lv_at hl 3 rfl) ?_
  refine lv_iconst (v := 0) hx hb dX3_rate_15 (by decide) ?_
  refine lv_bipush (v := 50) hx hb dX3_rate_16 (by decide) ?_
  refine k_callS (nn := 3) hC hG (K_X3_checkRange l hfl D cI cJ cZ cO z mi (ws) m9 0 50) gX3_rate_X3_checkRange rfl rfl (by decide +kernel) ⟨(Nat.le_of_ble_eq_true rfl), (Nat.le_of_ble_eq_true rfl)⟩ hl.1 rfl (Nat.le_of_ble_eq_true rfl) dX3_rate_18 ⟨(Nat.le_of_ble_eq_true rfl), (Nat.le_of_ble_eq_true rfl)⟩ (fun E9 ce9 q9 u9 H9 locs9 hp9 hG9 h91 h92 h93 => k_out hC hG9 h91 h92 h93 (by obtain ⟨rfl, hu8, h99⟩ := hp9; rw [hu8]; exact ⟨rfl, Or.inr (Or.inr (Or.inl ⟨rfl, hr1, hr2, h99⟩))⟩) (Nat.le_of_ble_eq_true rfl) (Nat.le_of_ble_eq_true rfl)) (fun v9 u9 H locs hp hG => ?_)
  obtain ⟨rfl, hu9, hr3⟩ := hp
  rw [hu9] at hG
  refine W.widen (k := 3) (n := 18) (Nat.le_of_ble_eq_true rfl) (Nat.le_of_ble_eq_true rfl) ?_
  refine W.eq (g2 := F0 m 21 ls []) rfl ?_
  refine lv_iconst (v := 0) hx hb dX3_rate_21 (by decide) ?_
  refine lv_istore (lv' := [(4, .int 0), (0, .ref hs), (1, .int l9), (2, .int p9), (3, .int m9)]) hx hb dX3_rate_22 hl (by decide) rfl (fun ls hl => ?_)
  refine k_loop (σ := Nat) (fun q9 => q9 ≤ nr ∧ kNoR fA l9 p9 m9 q9 = true) (fun q9 => nr - q9) (fun q9 => ws) (fun q9 => [(0, .ref hs), (1, .int l9), (2, .int p9), (3, .int m9), (4, .int (nI q9))]) 24 [] ?_ 0 (⟨Nat.zero_le _, rfl⟩) hG (lv_sub hl [1, 2, 3, 4, 0] rfl)
  intro q9
  obtain ⟨n, rfl⟩ : ∃ z9, z9 = q9 := ⟨_, rfl⟩
  intro hI ih H locs ls hG hl
  have hI : n ≤ nr ∧ kNoR fA l9 p9 m9 n = true := hI
  have hG : kG D A s (ws) H locs := hG
  have hl : lv_has ls 5 [(0, .ref hs), (1, .int l9), (2, .int p9), (3, .int m9), (4, .int (nI n))] := hl
  refine lv_iload hx hb dX3_rate_24 (lv_at hl 4 rfl) ?_
  refine lv_aload_n hx hb dX3_rate_26 rfl (lv_at hl 0 rfl) ?_
  refine k_get (C := RX3) (T := TX3) (N := 7) (ci := 4) (v := .ref lr) (fs := [.ref hd, .ref lr, .ref li, .ref hpr, .int lim, .int ret, .long clm]) hC hG hi_RX3 ks hSh.1 rfl 1 (by decide) (List.mem_of_getElem? (i := 3) rfl) rfl rfl dX3_rate_27 ?_
  refine k_callV (nn := 0) (C := RJx4a65c) hC hG klr hSh.2.2.2.2.2.2.2.1.1 (ci := 0) rfl (K_list_size l hfl D cI cJ cZ cO z mi (ws) klr lr mcr edr nr hSh.2.2.2.2.2.2.2.1.1) gX3_rate_Jx4a65c_size_8abf5 rfl rfl (by decide +kernel) ⟨(Nat.le_of_ble_eq_true rfl), (Nat.le_of_ble_eq_true rfl)⟩ hl.1 rfl (Nat.le_of_ble_eq_true rfl) dX3_rate_30 ⟨(Nat.le_of_ble_eq_true rfl), (Nat.le_of_ble_eq_true rfl)⟩ (fun _ _ _ _ _ _ hp => hp.elim) (fun v9 u9 H locs hp hG => ?_)
  obtain ⟨rfl, hu9⟩ := hp
  rw [hu9] at hG
  refine W.widen (k := 3) (n := 18) (Nat.le_of_ble_eq_true rfl) (Nat.le_of_ble_eq_true rfl) ?_
  refine W.eq (g2 := F0 m 33 ls [.int (nI nr), .int (nI n)]) rfl ?_
  refine k_icmp_ge (tgt := 66) hx hb dX3_rate_33 (by decide) (fun c_4 => ?_) (fun c_4 => ?_)
  · have hn2 : n = nr := by have := kNI_le c_4 (by omega) (by omega); have h9 : n ≤ nr := hI.1; omega
    have hno : kNoR fA l9 p9 m9 nr = true := hn2 ▸ hI.2
    refine lv_aload_n hx hb dX3_rate_66 rfl (lv_at hl 0 rfl) ?_
    refine k_get (C := RX3) (T := TX3) (N := 7) (ci := 4) (v := .ref lr) (fs := [.ref hd, .ref lr, .ref li, .ref hpr, .int lim, .int ret, .long clm]) hC hG hi_RX3 ks hSh.1 rfl 1 (by decide) (List.mem_of_getElem? (i := 3) rfl) rfl rfl dX3_rate_67 ?_
    refine k_callV (nn := 0) (C := RJx4a65c) hC hG klr hSh.2.2.2.2.2.2.2.1.1 (ci := 0) rfl (K_list_size l hfl D cI cJ cZ cO z mi (ws) klr lr mcr edr nr hSh.2.2.2.2.2.2.2.1.1) gX3_rate_Jx4a65c_size_8abf5 rfl rfl (by decide +kernel) ⟨(Nat.le_of_ble_eq_true rfl), (Nat.le_of_ble_eq_true rfl)⟩ hl.1 rfl (Nat.le_of_ble_eq_true rfl) dX3_rate_70 ⟨(Nat.le_of_ble_eq_true rfl), (Nat.le_of_ble_eq_true rfl)⟩ (fun _ _ _ _ _ _ hp => hp.elim) (fun v9 u9 H locs hp hG => ?_)
    obtain ⟨rfl, hu9⟩ := hp
    rw [hu9] at hG
    refine W.widen (k := 3) (n := 18) (Nat.le_of_ble_eq_true rfl) (Nat.le_of_ble_eq_true rfl) ?_
    refine W.eq (g2 := F0 m 73 ls [.int (nI nr)]) rfl ?_
    refine lv_bipush (v := 12) hx hb dX3_rate_73 (by decide) ?_
    refine k_icmp_lt (tgt := 88) hx hb dX3_rate_75 (by decide) (fun c_5 => ?_) (fun c_5 => ?_)
    · have h29 : nr < 12 := k_ltC (C := 12) rfl c_5 (by omega) (by omega)
      refine lv_aload_n hx hb dX3_rate_88 rfl (lv_at hl 0 rfl) ?_
      refine k_get (C := RX3) (T := TX3) (N := 7) (ci := 4) (v := .ref lr) (fs := [.ref hd, .ref lr, .ref li, .ref hpr, .int lim, .int ret, .long clm]) hC hG hi_RX3 ks hSh.1 rfl 1 (by decide) (List.mem_of_getElem? (i := 3) rfl) rfl rfl dX3_rate_89 ?_
      refine k_new (C := RX2) (T := TX2) (N := 3) (ci := 3) (fs := [.int 0, .int 0, .int 0]) hC hG hi_RX2 tyX2_ok (List.mem_of_getElem? (i := 4) rfl) (List.mem_of_getElem? (i := 6) rfl) (List.mem_of_getElem? (i := 7) rfl) rfl (fun j9 hj9 => match j9, hj9 with | 0, _ => rfl | 1, _ => rfl | 2, _ => rfl | n9 + 3, h9 => absurd h9 (by omega)) (Nat.le_of_ble_eq_true rfl) (Nat.le_of_ble_eq_true rfl) dX3_rate_92 (fun qn H hG => ?_)
      refine W.widen (k := 4) (n := 21) (Nat.le_of_ble_eq_true rfl) (Nat.le_of_ble_eq_true rfl) ?_
      have hG : kG D A s (ws ++ [(qn, .inr (3, [.int 0, .int 0, .int 0]))]) H locs := hG
      refine lv_dup hx hb dX3_rate_95 rfl ?_
      refine lv_iload_n hx hb dX3_rate_96 rfl (lv_at hl 1 rfl) ?_
      refine lv_iload_n hx hb dX3_rate_97 rfl (lv_at hl 2 rfl) ?_
      refine lv_iload_n hx hb dX3_rate_98 rfl (lv_at hl 3 rfl) ?_
      refine k_callI (nn := 3) hC hG (K_X2_init l hfl D cI cJ cZ cO z mi (ws ++ [(qn, .inr (3, [.int 0, .int 0, .int 0]))]) ws.length qn 0 0 0 l9 p9 m9 (k_last _ _)) gX3_rate_X2_init (List.mem_of_getElem? (i := 44) rfl) (List.mem_of_getElem? (i := 45) rfl) (List.mem_of_getElem? (i := 7) rfl) rfl rfl (by decide +kernel) ⟨(Nat.le_of_ble_eq_true rfl), (Nat.le_of_ble_eq_true rfl)⟩ hl.1 rfl (Nat.le_of_ble_eq_true rfl) dX3_rate_99 ⟨(Nat.le_of_ble_eq_true rfl), (Nat.le_of_ble_eq_true rfl)⟩ (fun _ _ _ _ _ _ hp => hp.elim) (fun v9 u9 H locs hp hG => ?_)
      obtain ⟨rfl, hu9⟩ := hp
      rw [hu9, k_setlast] at hG
      have hG : kG D A s (ws ++ [(qn, .inr (3, [.int l9, .int p9, .int m9]))]) H locs := hG
      refine W.widen (k := 4) (n := 21) (Nat.le_of_ble_eq_true rfl) (Nat.le_of_ble_eq_true rfl) ?_
      refine W.eq (g2 := F0 m 102 ls [.ref qn, .ref lr]) rfl ?_
      have hLx : (nr = 0 ∧ edr = z) ∨ ((ws ++ [(qn, .inr (3, [.int l9, .int p9, .int m9]))])[ker]? = some (edr, kOA cO lenr gr) ∧ nr ≤ lenr ∧ kLn lenr ∧ 0 < nr) := hSh.2.2.2.2.2.2.2.1.2.imp (fun e => ⟨e.1, e.2.1⟩) (fun e => ⟨k_fst e.1, e.2.1, e.2.2.1, e.2.2.2.1⟩)
      have hEx : kHE (ws ++ [(qn, .inr (3, [.int l9, .int p9, .int m9]))]) nr 3 gr := fun i hi y hy => by
        rw [(kLP.arr hSh.2.2.2.2.2.2.2.1 hi).2.2.2 i hi] at hy
        cases hy
        exact ⟨pr i, _, k_fst (hSh.2.2.2.2.1.1 i hi)⟩
      have hq : ∀ j, j < nr → ra j ≠ qn := fun j hj e => by
        have h1 := hG.2.1.1 (pr j) ws.length _ _ (k_fst (hSh.2.2.2.2.1.1 j hj)) (k_last _ _) e
        have h2 := k_len (hSh.2.2.2.2.1.1 j hj)
        omega
      have hnk : ws.length ≠ klr := by have := (kLP_len hSh.2.2.2.2.2.2.2.1).1; omega
      refine k_callV (nn := 1) (C := RJx4a65c) hC hG klr (k_fst hSh.2.2.2.2.2.2.2.1.1) (ci := 0) rfl (K_list_add l hfl D cI cJ cZ cO z mi (ws ++ [(qn, .inr (3, [.int l9, .int p9, .int m9]))]) klr ker lr mcr edr nr lenr gr 3 3 RX2 TX2 rfl (List.mem_of_getElem? (i := 4) rfl) (k_fst hSh.2.2.2.2.2.2.2.1.1) hLx hEx ws.length qn _ (k_last _ _) hnk (by omega) (by decide)) gX3_rate_Jx4a65c_add_9ea2d rfl rfl (by decide +kernel) ⟨(Nat.le_of_ble_eq_true rfl), (Nat.le_of_ble_eq_true rfl)⟩ hl.1 rfl (Nat.le_of_ble_eq_true rfl) dX3_rate_102 ⟨(Nat.le_of_ble_eq_true rfl), (Nat.le_of_ble_eq_true rfl)⟩ (fun _ _ _ _ _ _ hp => hp.elim) (fun v9 u9 H locs hp hG => ?_)
      obtain ⟨rfl, hu9⟩ := hp
      obtain ⟨ke', ed', len', g', hS', hF'⟩ := kSh_addR hSh (by omega) hq hu9
      refine W.widen (k := 5) (n := 81) (Nat.le_of_ble_eq_true rfl) (Nat.le_of_ble_eq_true rfl) ?_
      refine W.eq (g2 := F0 m 105 ls [.int 1]) rfl ?_
      refine lv_pop hx hb dX3_rate_105 rfl ?_
      refine lv_aload_n hx hb dX3_rate_106 rfl (lv_at hl 0 rfl) ?_
      refine k_get (C := RX3) (T := TX3) (N := 7) (ci := 4) (v := .ref lr) (fs := [.ref hd, .ref lr, .ref li, .ref hpr, .int lim, .int ret, .long clm]) hC hG hi_RX3 ks hS'.1 rfl 1 (by decide) (List.mem_of_getElem? (i := 3) rfl) rfl rfl dX3_rate_107 ?_
      refine k_callV (nn := 0) (C := RJx4a65c) hC hG klr hS'.2.2.2.2.2.2.2.1.1 (ci := 0) rfl (K_list_size l hfl D cI cJ cZ cO z mi (u9) klr lr (mcr + 1) ed' (nr + 1) hS'.2.2.2.2.2.2.2.1.1) gX3_rate_Jx4a65c_size_8abf5 rfl rfl (by decide +kernel) ⟨(Nat.le_of_ble_eq_true rfl), (Nat.le_of_ble_eq_true rfl)⟩ hl.1 rfl (Nat.le_of_ble_eq_true rfl) dX3_rate_110 ⟨(Nat.le_of_ble_eq_true rfl), (Nat.le_of_ble_eq_true rfl)⟩ (fun _ _ _ _ _ _ hp => hp.elim) (fun v9 u9 H locs hp hG => ?_)
      obtain ⟨rfl, hu9⟩ := hp
      rw [hu9] at hG
      refine W.widen (k := 5) (n := 81) (Nat.le_of_ble_eq_true rfl) (Nat.le_of_ble_eq_true rfl) ?_
      refine W.eq (g2 := F0 m 113 ls [.int (nI (nr + 1))]) rfl ?_
      refine lv_iconst (v := 1) hx hb dX3_rate_113 (by decide) ?_
      refine lv_isub hx hb dX3_rate_114 ?_
      refine k_topi (y := nI nr) (nI_pred _) ?_
      exact k_reti hC hr hG ⟨Or.inr ⟨hno, rfl, ⟨_, _, ke', ed', len', _, g', hS', hF'⟩⟩, hr1, hr2, hr3, by unfold kRok; rw [c_5]; exact Bool.or_true _⟩ (Nat.le_of_ble_eq_true rfl) (Nat.le_of_ble_eq_true rfl) dX3_rate_115
    · exact k_throw (text := "no room for a rate") (is := 111) (ic := 60) (cls := "java/lang/IllegalStateException") hC hG rfl (by decide +kernel) (List.mem_of_getElem? (i := 1) rfl) (List.mem_of_getElem? (i := 2) rfl) (by decide) (fun w h => List.mem_cons_of_mem _ (List.mem_append_left _ (List.mem_append_right _ h))) (by decide +kernel) (by decide +kernel) hl.1 dX3_rate_78 dX3_rate_81 dX3_rate_82 dX3_rate_84 dX3_rate_87 ⟨(Nat.le_of_ble_eq_true rfl), (Nat.le_of_ble_eq_true rfl)⟩ ⟨(Nat.le_of_ble_eq_true rfl), (Nat.le_of_ble_eq_true rfl)⟩ ⟨(Nat.le_of_ble_eq_true rfl), (Nat.le_of_ble_eq_true rfl)⟩ (⟨rfl, Or.inr (Or.inr (Or.inr (⟨rfl, hr1, hr2, hr3, (by unfold kRok; rw [hno, c_5]; rfl)⟩)))⟩)
  · have hn1 : n < nr := kNI_lt c_4 (by omega) (by omega)
    refine lv_aload_n hx hb dX3_rate_36 rfl (lv_at hl 0 rfl) ?_
    refine k_get (C := RX3) (T := TX3) (N := 7) (ci := 4) (v := .ref lr) (fs := [.ref hd, .ref lr, .ref li, .ref hpr, .int lim, .int ret, .long clm]) hC hG hi_RX3 ks hSh.1 rfl 1 (by decide) (List.mem_of_getElem? (i := 3) rfl) rfl rfl dX3_rate_37 ?_
    refine lv_iload hx hb dX3_rate_40 (lv_at hl 4 rfl) ?_
    obtain ⟨ai6, ai7, ai8, ai9⟩ := hSh.2.2.2.2.2.2.2.1.arr (j := n) hn1
    have hn30 : ni ≤ 30 ∧ nr ≤ 12 := hSh.2.2.1
    refine k_callV (nn := 1) (C := RJx4a65c) hC hG klr hSh.2.2.2.2.2.2.2.1.1 (ci := 0) rfl (K_list_get l hfl D cI cJ cZ cO z mi (ws) klr ker lr mcr edr nr lenr gr n hn1 (by omega) (by omega) hSh.2.2.2.2.2.2.2.1.1 ai6) gX3_rate_Jx4a65c_get_915e3 rfl rfl (by decide +kernel) ⟨(Nat.le_of_ble_eq_true rfl), (Nat.le_of_ble_eq_true rfl)⟩ hl.1 rfl (Nat.le_of_ble_eq_true rfl) dX3_rate_42 ⟨(Nat.le_of_ble_eq_true rfl), (Nat.le_of_ble_eq_true rfl)⟩ (fun _ _ _ _ _ _ hp => hp.elim) (fun v9 u9 H locs hp hG => ?_)
    obtain ⟨rfl, hu9⟩ := hp
    rw [hu9] at hG
    refine W.widen (k := 3) (n := 18) (Nat.le_of_ble_eq_true rfl) (Nat.le_of_ble_eq_true rfl) ?_
    refine W.eq (g2 := F0 m 45 ls [va_rf (gr n)]) rfl ?_
    refine k_topq (y := some (ra n)) (ai9 n hn1) ?_
    refine W.eq (g2 := F0 m 45 ls [.ref (ra n)]) rfl ?_
    refine va_castS hx hb hC.o (hC.t _ (List.mem_of_getElem? (i := 4) rfl)) (hC.K.1 3 _ rfl).2 (va_recv hC.K hG.1 (ci := 3) (q := (RX2, TX2, 3)) rfl (hSh.2.2.2.2.1.1 n hn1)) dX3_rate_45 ?_
    refine lv_iload_n hx hb dX3_rate_48 rfl (lv_at hl 1 rfl) ?_
    refine lv_iload_n hx hb dX3_rate_49 rfl (lv_at hl 2 rfl) ?_
    refine lv_iload_n hx hb dX3_rate_50 rfl (lv_at hl 3 rfl) ?_
    refine k_callV (nn := 3) (C := RX2) hC hG (pr n) (hSh.2.2.2.2.1.1 n hn1) (ci := 3) rfl (K_X2_isOf l hfl D cI cJ cZ cO z mi (ws) (pr n) (ra n) (fA (3 * n)) (fA (3 * n + 1)) (fA (3 * n + 2)) l9 p9 m9 (hSh.2.2.2.2.1.1 n hn1)) gX3_rate_X2_isOf rfl rfl (by decide +kernel) ⟨(Nat.le_of_ble_eq_true rfl), (Nat.le_of_ble_eq_true rfl)⟩ hl.1 rfl (Nat.le_of_ble_eq_true rfl) dX3_rate_51 ⟨(Nat.le_of_ble_eq_true rfl), (Nat.le_of_ble_eq_true rfl)⟩ (fun _ _ _ _ _ _ hp => hp.elim) (fun v9 u9 H locs hp hG => ?_)
    obtain ⟨rfl, hu9⟩ := hp
    rw [hu9] at hG
    refine W.widen (k := 3) (n := 18) (Nat.le_of_ble_eq_true rfl) (Nat.le_of_ble_eq_true rfl) ?_
    refine W.eq (g2 := F0 m 54 ls [.int (kb ((decide ((fA (3 * n)) = l9)) && ((decide ((fA (3 * n + 1)) = p9)) && (decide ((fA (3 * n + 2)) = m9)))))]) rfl ?_
    refine k_ifB_eq (tgt := 60) hx hb dX3_rate_54 (by decide) (fun c_10 => ?_) (fun c_10 => ?_)
    · refine lv_iinc (v := (nI n) + 1) (lv' := [(4, .int ((nI n) + 1)), (0, .ref hs), (1, .int l9), (2, .int p9), (3, .int m9)]) hx hb dX3_rate_60 hl (k := 4) rfl rfl (by decide) rfl (fun ls hl => ?_)
      refine lv_goto (tgt := 24) hx hb dX3_rate_63 (by decide) ?_
      rw [nI_1] at hl
      exact ih (n + 1) (⟨hn1, by show (kNoR fA l9 p9 m9 n && !kRe fA l9 p9 m9 n) = true; rw [hI.2, show kRe fA l9 p9 m9 n = false from c_10]; rfl⟩) (by show nr - (n + 1) < nr - n; omega) _ _ _ hG (lv_sub hl [1, 2, 3, 4, 0] rfl)
    · refine lv_iload hx hb dX3_rate_57 (lv_at hl 4 rfl) ?_
      exact k_reti hC hr hG ⟨Or.inl ⟨n, hn1, c_10, rfl, rfl⟩, hr1, hr2, hr3, by unfold kRok; rw [kNoR_f hn1 (show kRe fA l9 p9 m9 n = true from c_10)]; rfl⟩ (Nat.le_of_ble_eq_true rfl) (Nat.le_of_ble_eq_true rfl) dX3_rate_59

