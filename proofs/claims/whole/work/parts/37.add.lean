/-- a list that is full, and what array it takes next -/
def kFull (z : Nat) (cO : ClassId) (ws : va_W) (ke ed n : Nat) (g : Nat → Option Nat) (N : Nat) (g0 : Nat → Option Nat) : Prop :=
  (n = 0 ∧ ed = z ∧ N = 10 ∧ g0 = fun _ => none) ∨ (ws[ke]? = some (ed, kOA cO n g) ∧ 2 ≤ n ∧ n ≤ 26 ∧ N = n + n / 2 ∧ g0 = va_cpy g (fun _ => none) 0 0 n)
def kAdd (cO : ClassId) (ws : va_W) (k ke la : Nat) (mc : Int32) (n : Nat) (g : Nat → Option Nat) (v : Nat) (u : va_W) : Prop :=
  ∃ (ke' ed' len' : Nat) (g' : Nat → Option Nat), u[k]? = some (la, .inr (0, [.int mc, .ref ed', .int (nI (n + 1))])) ∧ u[ke']? = some (ed', kOA cO len' g') ∧ n + 1 ≤ len' ∧ kLn len' ∧ (∀ i, i < n → g' i = g i) ∧ g' n = some v ∧ ws.length ≤ u.length ∧ (ke' = ke ∨ ws.length ≤ ke') ∧ ∀ j, j < ws.length → j ≠ k → j ≠ ke → u[j]? = ws[j]?
theorem k_len {ws : va_W} {k : Nat} {c : Nat × va_E} (h : ws[k]? = some c) : k < ws.length := (List.getElem?_eq_some_iff.mp h).1

theorem K_grow (l : Launch) (hfl : l.stackTraces = false) (D : va_G) (cI cJ cZ cO : ClassId) (z mi : Nat) (ws : va_W) (k ke la : Nat) (mc : Int32) (ed n : Nat) (g : Nat → Option Nat) (ci N9 : Nat) (C : String) (T9 : u_T) (hci : vwCl[ci]? = some (C, T9, N9)) (hcast : Cond.castable C "java/lang/Object" ∈ kBad) (N : Nat) (g0 : Nat → Option Nat) (hw : ws[k]? = some (la, .inr (0, [.int mc, .ref ed, .int (nI n)]))) (hE : kHE ws n ci g) (hw9 : kFull z cO ws ke ed n g N g0) : kM l D (kTy cI cJ cZ cO) z mi yJx4a65c_grow_92f84 wsJx4a65c_grow_92f84 ({ frames := 3, cells := 1, slots := 60, locals := 130 } : Room) [.ref la, .int (nI (n + 1))] ws (fun v u => ∃ q, v = some (.ref q) ∧ u = (ws ++ [(q, kOA cO N g0)]).set k (la, .inr (0, [.int mc, .ref q, .int (nI n)]))) (fun _ _ => False) := by
  rcases hw9 with ⟨rfl, rfl, rfl, rfl⟩ | ⟨h1, h2, h3, rfl, rfl⟩
  · exact K_grow_Z l hfl D cI cJ cZ cO ed mi ws k la mc hw
  · exact K_grow_G l hfl D cI cJ cZ cO z mi ws k ke la mc ed n g ci N9 C T9 hci hcast h2 h3 hw h1 hE

set_option maxHeartbeats 4000000 in
set_option maxRecDepth 100000 in
/-- grow() -/
theorem K_grow0 (l : Launch) (hfl : l.stackTraces = false) (D : va_G) (cI cJ cZ cO : ClassId) (z mi : Nat) (ws : va_W) (k ke la : Nat) (mc : Int32) (ed n : Nat) (g : Nat → Option Nat) (ci N9 : Nat) (C : String) (T9 : u_T) (hci : vwCl[ci]? = some (C, T9, N9)) (hcast : Cond.castable C "java/lang/Object" ∈ kBad) (N : Nat) (g0 : Nat → Option Nat) (hw : ws[k]? = some (la, .inr (0, [.int mc, .ref ed, .int (nI n)]))) (hE : kHE ws n ci g) (hw9 : kFull z cO ws ke ed n g N g0) : kM l D (kTy cI cJ cZ cO) z mi yJx4a65c_grow_d5877 wsJx4a65c_grow_d5877 ({ frames := 4, cells := 1, slots := 60, locals := 170 } : Room) [.ref la] (ws) (fun v u => ∃ q, v = some (.ref q) ∧ u = (ws ++ [(q, kOA cO N g0)]).set k (la, .inr (0, [.int mc, .ref q, .int (nI n)]))) (fun _ _ => False) := by
  refine kM.of hfl (cc := cJx4a65c_grow_d5877) (maxL := 1) (ret := (some (.array (.object "java/lang/Object")))) (by decide) rfl (Nat.le_of_ble_eq_true rfl) ?_
  intro p e s m args below meth c A ls hC hr hmn hG hl
  have hx := hC.x
  have hb := hC.b
  have hl : lv_has ls 1 [(0, .ref la)] := hl
  have hi_RJx4a65c : ∀ w ∈ wsJx4a65c0, w ∈ wsJx4a65c_grow_d5877 := fun w h => List.mem_cons_of_mem _ (List.mem_append_right _ h)
  refine lv_aload_n hx hb dJx4a65c_grow_d5877_0 rfl (lv_at hl 0 rfl) ?_
  refine lv_aload_n hx hb dJx4a65c_grow_d5877_1 rfl (lv_at hl 0 rfl) ?_
  refine k_get (C := RJx4a65c) (T := TJx4a65c) (N := 3) (ci := 0) (v := .int (nI n)) (fs := [.int mc, .ref ed, .int (nI n)]) hC hG hi_RJx4a65c k hw rfl 2 (by decide) (List.mem_of_getElem? (i := 1) rfl) rfl rfl dJx4a65c_grow_d5877_2 ?_
  refine lv_iconst (v := 1) hx hb dJx4a65c_grow_d5877_5 (by decide) ?_
  refine lv_iadd hx hb dJx4a65c_grow_d5877_6 ?_
  refine k_topi (y := nI (n + 1)) (nI_1 _) ?_
  refine k_callV (nn := 1) (C := RJx4a65c) hC hG k hw (ci := 0) rfl (K_grow l hfl D cI cJ cZ cO z mi (ws) k ke la mc ed n g ci N9 C T9 hci hcast N g0 hw hE hw9) gJx4a65c_grow_d5877_Jx4a65c_grow_92f84 rfl rfl (by decide +kernel) ⟨(Nat.le_of_ble_eq_true rfl), (Nat.le_of_ble_eq_true rfl)⟩ hl.1 rfl (Nat.le_of_ble_eq_true rfl) dJx4a65c_grow_d5877_7 ⟨(Nat.le_of_ble_eq_true rfl), (Nat.le_of_ble_eq_true rfl)⟩ (fun _ _ _ _ _ _ hp => hp.elim) (fun v9 u9 H locs hp hG => ?_)
  obtain ⟨qa, rfl, hu9⟩ := hp
  refine W.widen (k := 1) (n := 60) (Nat.le_of_ble_eq_true rfl) (Nat.le_of_ble_eq_true rfl) ?_
  refine W.eq (g2 := F0 m 10 ls [.ref qa]) rfl ?_
  exact k_reta hC hr (Or.inr ⟨_, rfl⟩) hG (v := (some qa)) ⟨_, rfl, hu9⟩ (Nat.le_of_ble_eq_true rfl) (Nat.le_of_ble_eq_true rfl) dJx4a65c_grow_d5877_10

theorem kup_eq {α : Type} (f : Nat → α) (i : Nat) (v : α) : va_up f i v i = v := by unfold va_up; rw [if_pos rfl]
theorem kup_ne {α : Type} (f : Nat → α) {i j : Nat} (v : α) (h : j ≠ i) : va_up f i v j = f j := by unfold va_up; rw [if_neg h]
section KLG
variable {p : Program} {l : Launch} {e : Env} {R : Room} {s : State} {m : MethodId} {args : Array Value} {below : List Frame} {meth : Method} {c : Code} {H : Heap} {locs : List Loc} {cells slots : Nat} {Q : State → Prop}
variable {cc : ByteArray} {own : String} {wsm : List Cond} {nL : Nat} {D : va_G} {cI cJ cZ cO : ClassId} {z mi : Nat} {A : Nat → Prop} {ws : va_W} {pc : Nat} {ls : Array Slot} {rest : List Value}
theorem k_lenG {ke ed n N : Nat} {g g0 : Nat → Option Nat} (hC : kC p l s m args meth c cc own wsm nL D (kTy cI cJ cZ cO) z mi A) (hG : kG D A s ws H locs) (h : kFull z cO ws ke ed n g N g0) (hn : n < 2 ^ 31) (hdg : decode cc pc = .ok (.arraylength, 1))
    (kk : W p l e R s m args below meth c H locs cells slots Q (F0 m (pc + 1) ls (.int (nI n) :: rest))) : W p l e R s m args below meth c H locs cells slots Q (F0 m pc ls (.ref ed :: rest)) := by
  rcases h with ⟨rfl, rfl, -, -⟩ | ⟨h1, -⟩
  · exact va_tlen (v := nI 0) hC.x hC.b hC.Z.2.2.2.2.2 hG.2.2 rfl hdg kk
  · exact va_alen (v := nI n) hC.x hC.b hC.K hG.1 ke 3 h1 rfl rfl hdg kk
end KLG

set_option maxHeartbeats 4000000 in
set_option maxRecDepth 100000 in
/-- add, where the array is full -/
theorem K_add3_G (l : Launch) (hfl : l.stackTraces = false) (D : va_G) (cI cJ cZ cO : ClassId) (z mi : Nat) (ws : va_W) (k ke la : Nat) (mc : Int32) (ed n : Nat) (g : Nat → Option Nat) (ci N9 : Nat) (C : String) (T9 : u_T) (hci : vwCl[ci]? = some (C, T9, N9)) (hcast : Cond.castable C "java/lang/Object" ∈ kBad) (N : Nat) (g0 : Nat → Option Nat) (hw : ws[k]? = some (la, .inr (0, [.int mc, .ref ed, .int (nI n)]))) (hE : kHE ws n ci g) (hw9 : kFull z cO ws ke ed n g N g0) (pv v : Nat) (fv : List Value) (hv : ws[pv]? = some (v, .inr (ci, fv))) (hpv : pv ≠ k) (hn : n ≤ 29) (hN : n + 1 ≤ N) (hLn : kLn N) (hg0 : ∀ i, i < n → g0 i = g i) : kM l D (kTy cI cJ cZ cO) z mi yJx4a65c_add_72be8 wsJx4a65c_add_72be8 ({ frames := 5, cells := 1, slots := 60, locals := 210 } : Room) [.ref la, .ref v, .ref ed, .int (nI n)] (ws) (fun v9 u => v9 = none ∧ kAdd cO ws k ke la mc n g v u) (fun _ _ => False) := by
  refine kM.of hfl (cc := cJx4a65c_add_72be8) (maxL := 4) (ret := none) (by decide) rfl (Nat.le_of_ble_eq_true rfl) ?_
  intro p e s m args below meth c A ls hC hr hmn hG hl
  have hx := hC.x
  have hb := hC.b
  have hl : lv_has ls 4 [(0, .ref la), (1, .ref v), (2, .ref ed), (3, .int (nI n))] := hl
  have hi_RJx4a65c : ∀ w ∈ wsJx4a65c0, w ∈ wsJx4a65c_add_72be8 := fun w h => List.mem_cons_of_mem _ (List.mem_append_right _ h)
  refine lv_iload_n hx hb dJx4a65c_add_72be8_0 rfl (lv_at hl 3 rfl) ?_
  refine lv_aload_n hx hb dJx4a65c_add_72be8_1 rfl (lv_at hl 2 rfl) ?_
  refine k_lenG hC hG hw9 (by omega) dJx4a65c_add_72be8_2 ?_
  refine k_icmp_ne (tgt := 11) hx hb dJx4a65c_add_72be8_3 (by decide) (fun c_1 => absurd ((decide_eq_true rfl).symm.trans c_1) (by decide)) (fun c_1 => ?_)
  refine lv_aload_n hx hb dJx4a65c_add_72be8_6 rfl (lv_at hl 0 rfl) ?_
  refine k_callV (nn := 0) (C := RJx4a65c) hC hG k hw (ci := 0) rfl (K_grow0 l hfl D cI cJ cZ cO z mi (ws) k ke la mc ed n g ci N9 C T9 hci hcast N g0 hw hE hw9) gJx4a65c_add_72be8_Jx4a65c_grow_d5877 rfl rfl (by decide +kernel) ⟨(Nat.le_of_ble_eq_true rfl), (Nat.le_of_ble_eq_true rfl)⟩ hl.1 rfl (Nat.le_of_ble_eq_true rfl) dJx4a65c_add_72be8_7 ⟨(Nat.le_of_ble_eq_true rfl), (Nat.le_of_ble_eq_true rfl)⟩ (fun _ _ _ _ _ _ hp => hp.elim) (fun v9 u9 H locs hp hG => ?_)
  obtain ⟨qa, rfl, hu9⟩ := hp
  have hkl : k < ws.length := k_len hw
  have hvl : pv < ws.length := k_len hv
  have f1 : u9[k]? = some (la, .inr (0, [.int mc, .ref qa, .int (nI n)])) := by rw [hu9]; exact k_sets (k_fst hw)
  have f2 : u9[ws.length]? = some (qa, kOA cO N g0) := by rw [hu9]; exact k_seto (k_last _ _) (by omega)
  have f3 : u9[pv]? = some (v, .inr (ci, fv)) := by rw [hu9]; exact k_seto (k_fst hv) (fun q => hpv q.symm)
  refine W.widen (k := 1) (n := 60) (Nat.le_of_ble_eq_true rfl) (Nat.le_of_ble_eq_true rfl) ?_
  refine W.eq (g2 := F0 m 10 ls [.ref qa]) rfl ?_
  refine lv_astore_n (lv' := [(2, .ref qa), (0, .ref la), (1, .ref v), (3, .int (nI n))]) hx hb dJx4a65c_add_72be8_10 rfl hl (by decide) rfl (fun ls hl => ?_)
  refine lv_aload_n hx hb dJx4a65c_add_72be8_11 rfl (lv_at hl 0 rfl) ?_
  refine lv_iload_n hx hb dJx4a65c_add_72be8_12 rfl (lv_at hl 3 rfl) ?_
  refine lv_aload_n hx hb dJx4a65c_add_72be8_13 rfl (lv_at hl 2 rfl) ?_
  refine va_astqO hx hb hC.K hG.1 hG.2.1 hG.2.2 ws.length 3 pv ci f2 rfl (hC.Z.2.1.1 _ hcast) f3 hci (vp_in_nI (by first | omega | (have q := hLn; unfold kLn at q; omega)) (by first | omega | (have q := hLn; unfold kLn at q; omega))) dJx4a65c_add_72be8_14 (fun H locs h1 h2 h3 => ?_)
  have hG : kG D A s (u9.set ws.length (qa, kOA cO N (va_up g0 n (some v)))) H locs := by
    rw [nI_clamp (by omega)] at h1 h2
    exact ⟨h1, h2, h3⟩
  have f4 : (u9.set ws.length (qa, kOA cO N (va_up g0 n (some v))))[k]? = some (la, .inr (0, [.int mc, .ref qa, .int (nI n)])) := k_seto f1 (by omega)
  refine lv_aload_n hx hb dJx4a65c_add_72be8_15 rfl (lv_at hl 1 rfl) ?_
  refine lv_iload_n hx hb dJx4a65c_add_72be8_16 rfl (lv_at hl 3 rfl) ?_
  refine lv_iconst (v := 1) hx hb dJx4a65c_add_72be8_17 (by decide) ?_
  refine lv_iadd hx hb dJx4a65c_add_72be8_18 ?_
  refine k_topi (y := nI (n + 1)) (nI_1 _) ?_
  refine k_put (C := RJx4a65c) (T := TJx4a65c) (N := 3) (ci := 0) (v := .int (nI (n + 1))) (fs := [.int mc, .ref qa, .int (nI n)]) hC hG hi_RJx4a65c tyJx4a65c_ok nmJx4a65c k f4 rfl 2 (by decide) (List.mem_of_getElem? (i := 1) rfl) rfl rfl rfl rfl (Nat.le_of_ble_eq_true rfl) dJx4a65c_add_72be8_19 (fun H locs hG => ?_)
  have hG : kG D A s ((u9.set ws.length (qa, kOA cO N (va_up g0 n (some v)))).set k (la, .inr (0, [.int mc, .ref qa, .int (nI (n + 1))]))) H locs := hG
  exact k_retv hC hr hG ⟨rfl, ws.length, qa, N, va_up g0 n (some v), k_sets f4, k_seto (k_sets f2) (by omega), hN, hLn, fun i hi => (kup_ne _ _ (by omega)).trans (hg0 i hi), kup_eq _ _ _, by rw [List.length_set, List.length_set, hu9, List.length_set, List.length_append]; omega, Or.inr (Nat.le_refl _), fun j h1 h2 h3 => by rw [List.getElem?_set_ne (fun q => h2 q.symm), List.getElem?_set_ne (by omega), hu9, List.getElem?_set_ne (fun q => h2 q.symm), List.getElem?_append_left h1]⟩ (Nat.le_of_ble_eq_true rfl) (Nat.le_of_ble_eq_true rfl) dJx4a65c_add_72be8_22

set_option maxHeartbeats 4000000 in
set_option maxRecDepth 100000 in
/-- add, where there is room -/
theorem K_add3_R (l : Launch) (hfl : l.stackTraces = false) (D : va_G) (cI cJ cZ cO : ClassId) (z mi : Nat) (ws : va_W) (k ke la : Nat) (mc : Int32) (ed n len : Nat) (g : Nat → Option Nat) (ci N9 : Nat) (C : String) (T9 : u_T) (hci : vwCl[ci]? = some (C, T9, N9)) (hcast : Cond.castable C "java/lang/Object" ∈ kBad) (hw : ws[k]? = some (la, .inr (0, [.int mc, .ref ed, .int (nI n)]))) (hw2 : ws[ke]? = some (ed, kOA cO len g)) (pv v : Nat) (fv : List Value) (hv : ws[pv]? = some (v, .inr (ci, fv))) (hpv : pv ≠ k) (hlt : n < len) (hn : n ≤ 29) (hLn : kLn len) : kM l D (kTy cI cJ cZ cO) z mi yJx4a65c_add_72be8 wsJx4a65c_add_72be8 ({ frames := 5, cells := 1, slots := 60, locals := 210 } : Room) [.ref la, .ref v, .ref ed, .int (nI n)] (ws) (fun v9 u => v9 = none ∧ kAdd cO ws k ke la mc n g v u) (fun _ _ => False) := by
  refine kM.of hfl (cc := cJx4a65c_add_72be8) (maxL := 4) (ret := none) (by decide) rfl (Nat.le_of_ble_eq_true rfl) ?_
  intro p e s m args below meth c A ls hC hr hmn hG hl
  have hx := hC.x
  have hb := hC.b
  have hl : lv_has ls 4 [(0, .ref la), (1, .ref v), (2, .ref ed), (3, .int (nI n))] := hl
  have hi_RJx4a65c : ∀ w ∈ wsJx4a65c0, w ∈ wsJx4a65c_add_72be8 := fun w h => List.mem_cons_of_mem _ (List.mem_append_right _ h)
  refine lv_iload_n hx hb dJx4a65c_add_72be8_0 rfl (lv_at hl 3 rfl) ?_
  refine lv_aload_n hx hb dJx4a65c_add_72be8_1 rfl (lv_at hl 2 rfl) ?_
  refine va_alen (v := nI len) hx hb hC.K hG.1 ke 3 hw2 rfl rfl dJx4a65c_add_72be8_2 ?_
  refine k_icmp_ne (tgt := 11) hx hb dJx4a65c_add_72be8_3 (by decide) (fun c_1 => ?_) (fun c_1 => absurd ((decide_eq_false (fun q => absurd ((nI_eq (by omega) (by have q := hLn; unfold kLn at q; omega)).mp q) (by omega))).symm.trans c_1) (by decide))
  refine lv_aload_n hx hb dJx4a65c_add_72be8_11 rfl (lv_at hl 2 rfl) ?_
  refine lv_iload_n hx hb dJx4a65c_add_72be8_12 rfl (lv_at hl 3 rfl) ?_
  refine lv_aload_n hx hb dJx4a65c_add_72be8_13 rfl (lv_at hl 1 rfl) ?_
  refine va_astqO hx hb hC.K hG.1 hG.2.1 hG.2.2 ke 3 pv ci hw2 rfl (hC.Z.2.1.1 _ hcast) hv hci (vp_in_nI (by first | omega | (have q := hLn; unfold kLn at q; omega)) (by first | omega | (have q := hLn; unfold kLn at q; omega))) dJx4a65c_add_72be8_14 (fun H locs h1 h2 h3 => ?_)
  have hke : ke ≠ k := fun q => by rw [q, hw] at hw2; cases hw2
  have hG : kG D A s (ws.set ke (ed, kOA cO len (va_up g n (some v)))) H locs := by
    rw [nI_clamp (by omega)] at h1 h2
    exact ⟨h1, h2, h3⟩
  have f4 : (ws.set ke (ed, kOA cO len (va_up g n (some v))))[k]? = some (la, .inr (0, [.int mc, .ref ed, .int (nI n)])) := k_seto hw hke
  refine lv_aload_n hx hb dJx4a65c_add_72be8_15 rfl (lv_at hl 0 rfl) ?_
  refine lv_iload_n hx hb dJx4a65c_add_72be8_16 rfl (lv_at hl 3 rfl) ?_
  refine lv_iconst (v := 1) hx hb dJx4a65c_add_72be8_17 (by decide) ?_
  refine lv_iadd hx hb dJx4a65c_add_72be8_18 ?_
  refine k_topi (y := nI (n + 1)) (nI_1 _) ?_
  refine k_put (C := RJx4a65c) (T := TJx4a65c) (N := 3) (ci := 0) (v := .int (nI (n + 1))) (fs := [.int mc, .ref ed, .int (nI n)]) hC hG hi_RJx4a65c tyJx4a65c_ok nmJx4a65c k f4 rfl 2 (by decide) (List.mem_of_getElem? (i := 1) rfl) rfl rfl rfl rfl (Nat.le_of_ble_eq_true rfl) dJx4a65c_add_72be8_19 (fun H locs hG => ?_)
  have hG : kG D A s ((ws.set ke (ed, kOA cO len (va_up g n (some v)))).set k (la, .inr (0, [.int mc, .ref ed, .int (nI (n + 1))]))) H locs := hG
  exact k_retv hC hr hG ⟨rfl, ke, ed, len, va_up g n (some v), k_sets f4, k_seto (k_sets hw2) hke.symm, hlt, hLn, fun i hi => kup_ne _ _ (by omega), kup_eq _ _ _, by rw [List.length_set, List.length_set]; exact Nat.le_refl _, Or.inl rfl, fun j h1 h2 h3 => by rw [List.getElem?_set_ne (fun q => h2 q.symm), List.getElem?_set_ne (fun q => h3 q.symm)]⟩ (Nat.le_of_ble_eq_true rfl) (Nat.le_of_ble_eq_true rfl) dJx4a65c_add_72be8_22

theorem K_add3 (l : Launch) (hfl : l.stackTraces = false) (D : va_G) (cI cJ cZ cO : ClassId) (z mi : Nat) (ws : va_W) (k ke la : Nat) (mc : Int32) (ed n len : Nat) (g : Nat → Option Nat) (ci N9 : Nat) (C : String) (T9 : u_T) (hci : vwCl[ci]? = some (C, T9, N9)) (hcast : Cond.castable C "java/lang/Object" ∈ kBad) (hw : ws[k]? = some (la, .inr (0, [.int mc, .ref ed, .int (nI n)]))) (hL : (n = 0 ∧ ed = z) ∨ (ws[ke]? = some (ed, kOA cO len g) ∧ n ≤ len ∧ kLn len ∧ 0 < n)) (hE : kHE ws n ci g) (pv v : Nat) (fv : List Value) (hv : ws[pv]? = some (v, .inr (ci, fv))) (hpv : pv ≠ k) (hn : n ≤ 29) : kM l D (kTy cI cJ cZ cO) z mi yJx4a65c_add_72be8 wsJx4a65c_add_72be8 ({ frames := 5, cells := 1, slots := 60, locals := 210 } : Room) [.ref la, .ref v, .ref ed, .int (nI n)] ws (fun v9 u => v9 = none ∧ kAdd cO ws k ke la mc n g v u) (fun _ _ => False) := by
  rcases hL with ⟨h1, h2⟩ | ⟨h1, h2, h3, h4⟩
  · subst h1
    exact K_add3_G l hfl D cI cJ cZ cO z mi ws k ke la mc ed 0 g ci N9 C T9 hci hcast 10 (fun _ => none) hw hE (Or.inl ⟨rfl, h2, rfl, rfl⟩) pv v fv hv hpv hn (by omega) (Or.inl rfl) (fun i hi => absurd hi (Nat.not_lt_zero _))
  · by_cases e : n = len
    · subst e
      refine K_add3_G l hfl D cI cJ cZ cO z mi ws k ke la mc ed n g ci N9 C T9 hci hcast (n + n / 2) (va_cpy g (fun _ => none) 0 0 n) hw hE (Or.inr ⟨h1, ?_, ?_, rfl, rfl⟩) pv v fv hv hpv hn ?_ ?_ (fun i hi => ?_)
      · rcases h3 with h3 | h3 | h3 | h3 <;> omega
      · rcases h3 with h3 | h3 | h3 | h3 <;> omega
      · rcases h3 with h3 | h3 | h3 | h3 <;> omega
      · unfold kLn; rcases h3 with h3 | h3 | h3 | h3 <;> omega
      · unfold va_cpy
        rw [if_pos (by omega), Nat.zero_add, Nat.sub_zero]
    · exact K_add3_R l hfl D cI cJ cZ cO z mi ws k ke la mc ed n len g ci N9 C T9 hci hcast hw h1 pv v fv hv hpv (by omega) hn h3

theorem kAdd_of {cO : ClassId} {ws u : va_W} {k ke la n v : Nat} {mc : Int32} {g : Nat → Option Nat} {c9 : Nat × va_E} (h : kAdd cO (ws.set k c9) k ke la mc n g v u) : kAdd cO ws k ke la mc n g v u := by
  obtain ⟨a, b, c, d, h1, h2, h3, h4, h5, h6, h7, h8, h9⟩ := h
  rw [List.length_set] at h7 h8 h9
  exact ⟨a, b, c, d, h1, h2, h3, h4, h5, h6, h7, h8, fun j q1 q2 q3 => by rw [h9 j q1 q2 q3, List.getElem?_set_ne (fun q => q2 q.symm)]⟩

set_option maxHeartbeats 4000000 in
set_option maxRecDepth 100000 in
/-- ArrayList.add -/
theorem K_list_add (l : Launch) (hfl : l.stackTraces = false) (D : va_G) (cI cJ cZ cO : ClassId) (z mi : Nat) (ws : va_W) (k ke la : Nat) (mc : Int32) (ed n len : Nat) (g : Nat → Option Nat) (ci N9 : Nat) (C : String) (T9 : u_T) (hci : vwCl[ci]? = some (C, T9, N9)) (hcast : Cond.castable C "java/lang/Object" ∈ kBad) (hw : ws[k]? = some (la, .inr (0, [.int mc, .ref ed, .int (nI n)]))) (hL : (n = 0 ∧ ed = z) ∨ (ws[ke]? = some (ed, kOA cO len g) ∧ n ≤ len ∧ kLn len ∧ 0 < n)) (hE : kHE ws n ci g) (pv v : Nat) (fv : List Value) (hv : ws[pv]? = some (v, .inr (ci, fv))) (hpv : pv ≠ k) (hn : n ≤ 29) (hci0 : ci ≠ 0) : kM l D (kTy cI cJ cZ cO) z mi yJx4a65c_add_9ea2d wsJx4a65c_add_9ea2d ({ frames := 6, cells := 1, slots := 60, locals := 250 } : Room) [.ref la, .ref v] (ws) (fun v9 u => v9 = some (.int 1) ∧ kAdd cO ws k ke la (mc + 1) n g v u) (fun _ _ => False) := by
  refine kM.of hfl (cc := cJx4a65c_add_9ea2d) (maxL := 2) (ret := (some .boolean)) (by decide) rfl (Nat.le_of_ble_eq_true rfl) ?_
  intro p e s m args below meth c A ls hC hr hmn hG hl
  have hx := hC.x
  have hb := hC.b
  have hl : lv_has ls 2 [(0, .ref la), (1, .ref v)] := hl
  have hi_RJx4a65c : ∀ w ∈ wsJx4a65c0, w ∈ wsJx4a65c_add_9ea2d := fun w h => List.mem_cons_of_mem _ (List.mem_append_right _ h)
  refine lv_aload_n hx hb dJx4a65c_add_9ea2d_0 rfl (lv_at hl 0 rfl) ?_
  refine lv_dup hx hb dJx4a65c_add_9ea2d_1 rfl ?_
  refine va_get (C := RJx4a65c) (T := TJx4a65c) (N := 3) (ci := 0) (v := .int mc) (fs := [.int mc, .ref ed, .int (nI n)]) hx hb hC.t hi_RJx4a65c hC.o hC.K hG.1 k hw rfl 0 (by decide) (hC.t _ (List.mem_of_getElem? (i := 1) rfl)) (u_same (hC.t _ (List.mem_of_getElem? (i := 2) rfl))) rfl dJx4a65c_add_9ea2d_2 ?_
  refine lv_iconst (v := 1) hx hb dJx4a65c_add_9ea2d_5 (by decide) ?_
  refine lv_iadd hx hb dJx4a65c_add_9ea2d_6 ?_
  refine va_put (C := RJx4a65c) (T := TJx4a65c) (N := 3) (ci := 0) (v := .int (mc + 1)) (fs := [.int mc, .ref ed, .int (nI n)]) hx hb hC.t hi_RJx4a65c tyJx4a65c tyJx4a65c_ok nmJx4a65c hC.o hC.K hG.1 hG.2.1 hG.2.2 k hw rfl 0 (by decide) (hC.t _ (List.mem_of_getElem? (i := 1) rfl)) (u_same (hC.t _ (List.mem_of_getElem? (i := 2) rfl))) rfl (tyJx4a65c_ok 0 (by decide)) rfl rfl (Nat.le_of_ble_eq_true rfl) dJx4a65c_add_9ea2d_7 (fun H locs h1 h2 h3 => ?_)
  have hG : kG D A s (ws.set k (la, .inr (0, [.int (mc + 1), .ref ed, .int (nI n)]))) H locs := ⟨h1, h2, h3⟩
  have hL2 : (n = 0 ∧ ed = z) ∨ ((ws.set k (la, .inr (0, [.int (mc + 1), .ref ed, .int (nI n)])))[ke]? = some (ed, kOA cO len g) ∧ n ≤ len ∧ kLn len ∧ 0 < n) := hL.imp (fun q => q) (fun q => ⟨k_seto q.1 (fun e => by have h1 := q.1; rw [← e, hw] at h1; cases h1), q.2⟩)
  have hE2 : kHE (ws.set k (la, .inr (0, [.int (mc + 1), .ref ed, .int (nI n)]))) n ci g := fun i hi y hy => by
    obtain ⟨p9, f9, h9⟩ := hE i hi y hy
    refine ⟨p9, f9, k_seto h9 (fun q => ?_)⟩
    rw [← q, hw] at h9
    cases h9
    exact hci0 rfl
  refine lv_aload_n hx hb dJx4a65c_add_9ea2d_10 rfl (lv_at hl 0 rfl) ?_
  refine lv_aload_n hx hb dJx4a65c_add_9ea2d_11 rfl (lv_at hl 1 rfl) ?_
  refine lv_aload_n hx hb dJx4a65c_add_9ea2d_12 rfl (lv_at hl 0 rfl) ?_
  refine k_get (C := RJx4a65c) (T := TJx4a65c) (N := 3) (ci := 0) (v := .ref ed) (fs := [.int (mc + 1), .ref ed, .int (nI n)]) hC hG hi_RJx4a65c k (k_sets hw) rfl 1 (by decide) (List.mem_of_getElem? (i := 3) rfl) rfl rfl dJx4a65c_add_9ea2d_13 ?_
  refine lv_aload_n hx hb dJx4a65c_add_9ea2d_16 rfl (lv_at hl 0 rfl) ?_
  refine k_get (C := RJx4a65c) (T := TJx4a65c) (N := 3) (ci := 0) (v := .int (nI n)) (fs := [.int (mc + 1), .ref ed, .int (nI n)]) hC hG hi_RJx4a65c k (k_sets hw) rfl 2 (by decide) (List.mem_of_getElem? (i := 4) rfl) rfl rfl dJx4a65c_add_9ea2d_17 ?_
  refine k_callV (nn := 3) (C := RJx4a65c) hC hG k (k_sets hw) (ci := 0) rfl (K_add3 l hfl D cI cJ cZ cO z mi (ws.set k (la, .inr (0, [.int (mc + 1), .ref ed, .int (nI n)]))) k ke la (mc + 1) ed n len g ci N9 C T9 hci hcast (k_sets hw) hL2 hE2 pv v fv (k_seto hv (fun q => hpv q.symm)) hpv hn) gJx4a65c_add_9ea2d_Jx4a65c_add_72be8 rfl rfl (by decide +kernel) ⟨(Nat.le_of_ble_eq_true rfl), (Nat.le_of_ble_eq_true rfl)⟩ hl.1 rfl (Nat.le_of_ble_eq_true rfl) dJx4a65c_add_9ea2d_20 ⟨(Nat.le_of_ble_eq_true rfl), (Nat.le_of_ble_eq_true rfl)⟩ (fun _ _ _ _ _ _ hp => hp.elim) (fun v9 u9 H locs hp hG => ?_)
  obtain ⟨rfl, hu9⟩ := hp
  refine W.widen (k := 1) (n := 60) (Nat.le_of_ble_eq_true rfl) (Nat.le_of_ble_eq_true rfl) ?_
  refine W.eq (g2 := F0 m 23 ls []) rfl ?_
  refine lv_iconst (v := 1) hx hb dJx4a65c_add_9ea2d_23 (by decide) ?_
  exact k_retz hC hr hG rfl ⟨rfl, kAdd_of hu9⟩ (Nat.le_of_ble_eq_true rfl) (Nat.le_of_ble_eq_true rfl) dJx4a65c_add_9ea2d_24

