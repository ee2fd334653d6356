/-! ===== a body with handlers ===== -/
def kH (p : Program) (l : Launch) (s : State) (m : MethodId) (args : Array Value) (meth : Method) (c : Code) (cc : ByteArray) (own : String) (wsm : List Cond) (nL : Nat) (hh : List (Nat × Nat × Nat × Nat)) (D : va_G) (ty : List (ClassId × FieldType)) (z mi : Nat) (A : Nat → Prop) : Prop :=
  p.tables.exec = Jvm.exec ∧ c.code = cc ∧ c.maxLocals = nL ∧ s.vm.findClass own = some m.cls ∧ (∀ w ∈ wsm, w.before args s = true) ∧ meth.locks = false ∧ c.exceptionTable.toList = tableOf hh ∧ va_K D vwCl ty s ∧ kZ z mi A s s.heap ∧ (∀ q, s.heap.size ≤ q → A q) ∧ l.stackTraces = false
section KH2
variable {p : Program} {l : Launch} {e : Env} {R : Room} {s : State} {m : MethodId} {args : Array Value} {below : List Frame} {meth : Method} {c : Code} {H : Heap} {locs : List Loc} {cells slots : Nat} {Q : State → Prop}
variable {cc : ByteArray} {own : String} {wsm : List Cond} {nL : Nat} {hh : List (Nat × Nat × Nat × Nat)} {D : va_G} {ty : List (ClassId × FieldType)} {z mi : Nat} {A : Nat → Prop} {ws : va_W} {pc : Nat} {ls : Array Slot} {rest st0 : List Value}
theorem kH.x (hC : kH p l s m args meth c cc own wsm nL hh D ty z mi A) : p.tables.exec = Jvm.exec := hC.1
theorem kH.b (hC : kH p l s m args meth c cc own wsm nL hh D ty z mi A) : c.code = cc := hC.2.1
theorem kH.nl (hC : kH p l s m args meth c cc own wsm nL hh D ty z mi A) : c.maxLocals = nL := hC.2.2.1
theorem kH.o (hC : kH p l s m args meth c cc own wsm nL hh D ty z mi A) : s.vm.findClass own = some m.cls := hC.2.2.2.1
theorem kH.t (hC : kH p l s m args meth c cc own wsm nL hh D ty z mi A) : ∀ w ∈ wsm, w.before args s = true := hC.2.2.2.2.1
theorem kH.k (hC : kH p l s m args meth c cc own wsm nL hh D ty z mi A) : meth.locks = false := hC.2.2.2.2.2.1
theorem kH.et (hC : kH p l s m args meth c cc own wsm nL hh D ty z mi A) : c.exceptionTable.toList = tableOf hh := hC.2.2.2.2.2.2.1
theorem kH.K (hC : kH p l s m args meth c cc own wsm nL hh D ty z mi A) : va_K D vwCl ty s := hC.2.2.2.2.2.2.2.1
theorem kH.Z (hC : kH p l s m args meth c cc own wsm nL hh D ty z mi A) : kZ z mi A s s.heap := hC.2.2.2.2.2.2.2.2.1
theorem kH.up (hC : kH p l s m args meth c cc own wsm nL hh D ty z mi A) : ∀ q, s.heap.size ≤ q → A q := hC.2.2.2.2.2.2.2.2.2.1
theorem kH.f (hC : kH p l s m args meth c cc own wsm nL hh D ty z mi A) : l.stackTraces = false := hC.2.2.2.2.2.2.2.2.2.2
variable {post : Option Value → va_W → Prop} {XC : String → State → State → Prop} {mc ms : Nat}
theorem kh_reti (hC : kH p l s m args meth c cc own wsm nL hh D ty z mi A) (hr : meth.sig.returnType = some .int) (hG : kG D A s ws H locs) {v : Int32} (hp : post (some (.int v)) ws) (hc : cells ≤ mc) (hs : slots ≤ ms) (hdg : decode cc pc = .ok (.ireturn, 1)) : W p l e R s m args below meth c H locs cells slots (vx_MQ below (kQ D post A) XC args s mc ms A) (F0 m pc ls [.int v]) :=
  W.widen hc hs (vx_ret (W.iret hC.x hC.b hr (fun t ht _ => ⟨⟨_, ws, rfl, hp, by rw [ht]; exact hG.1, hG.2.1⟩, hG.2.2.F ht⟩) hG.2.2.2.2 hdg hC.k))
/-- a call's run, its two ways on -/
theorem kh_run {cmc cms : Nat} {a9 : Array Value} {pst : Option Value → va_W → Prop} {px : String → va_W → Prop} (hC : kH p l s m args meth c cc own wsm nL hh D ty z mi A) (hG : kG D A s ws H locs)
    (hr : vx_Run p l e R s m args below meth c H locs cells slots cmc cms (F0 m pc ls st0) rest (kQ D pst (va_A ws H.size) a9) (kXx D px (va_A ws H.size)) (va_A ws H.size))
    (kx : ∀ (E : String) (ce : Cell) (q9 : Addr) (u : va_W) (H1 : Heap) (locs1 : List Loc), px E u → kG D A s u H1 locs1 → H1[q9]? = some ce → ce.vm = .none → s.vm.findClass E = some ce.cls → vx_W p l e R s m args below meth c H1 locs1 (cells + cmc) (slots + cms) Q (F0 m pc ls rest) q9)
    (kk : ∀ (v : Option Value) (u : va_W) (H1 : Heap) (locs1 : List Loc), pst v u → kG D A s u H1 locs1 → W p l e R s m args below meth c H1 locs1 (cells + cmc) (slots + cms) Q (F0 m (pc + 3) ls (v.toList ++ rest))) : W p l e R s m args below meth c H locs cells slots Q (F0 m pc ls st0) := by
  have hf := hG.sub hC.up
  intro T hT X
  rcases hr T hT X with ⟨v, st₀, t, T', L, h0, X', hL, e1, e2, ⟨⟨v', u, hv, hp, hP1, hD1⟩, hF⟩, st⟩ | ⟨q, st₀, t, T', L, E, ce, h0, X', hL, e1, e2, ⟨u, hp, hP1, hD1, hF⟩, hce, hcv, hcl, st⟩
  · cases hv
    obtain ⟨k1, k2, k3⟩ := vx_keep h0 e1 hG.2.2 (fun q _ h => hf q h) hf hL hF
    obtain ⟨t2, a1, b1⟩ := kk v u T'.heap (locs ++ L) hp ⟨by rw [e1]; exact hP1, hD1.weaken (fun k q _ h => hf q.1 h), k3⟩ T' rfl X'
    exact ⟨t2, st t2 a1, b1⟩
  · obtain ⟨k1, k2, k3⟩ := vx_keep h0 e1 hG.2.2 (fun q _ h => hf q h) hf hL hF
    obtain ⟨t2, a1, b1⟩ := kx E ce q u T'.heap (locs ++ L) hp ⟨by rw [e1]; exact hP1, hD1.weaken (fun k q _ h => hf q.1 h), k3⟩ (by rw [e1]; exact hce) hcv hcl T' rfl X'
    exact ⟨t2, st.trans a1, b1⟩
/-- the world as the callee wants it -/
theorem kh_pre (hC : kH p l s m args meth c cc own wsm nL hh D ty z mi A) (hG : kG D A s ws H locs) {av : List Value} : ∀ U : State, U.heap = H → s.WarmedH U.vm → kP D ty z mi av ws H.size av.toArray U := by
  intro U hU hW
  refine ⟨rfl, by rw [hU], by rw [hU]; exact hG.1, va_K.moved hW.alike hC.K, hG.2.1.self, ?_⟩
  exact hC.Z.to hG.2.2 (hG.sub hC.up) hW hU
variable {y : MethodName} {bytes : ByteArray} {maxL n index b ci q0 : Nat} {ret : Option FieldType} {wsc wsc' : List Cond} {rm : Room} {As : List Value} {pst : Option Value → va_W → Prop} {px : String → va_W → Prop} {C : String} {T0 : u_T} {N0 : Nat} {fs : List Value} {wss : va_W}
theorem kh_callV (hC : kH p l s m args meth c cc own wsm nL hh D ty z mi A) (hG : kG D A s ws H locs) (q0 : Nat) (he : ws[q0]? = some (b, .inr (ci, fs))) (hc : vwCl[ci]? = some (C, T0, N0)) (hM : kM l D ty z mi y wsc rm (.ref b :: As) ws pst px) (hg : GoodIn wsm (wsV own index C y wsc)) (hw : wsc = Cond.code y bytes maxL ret :: wsc') {nn : Nat} (hnn : As.length = nn) (hd : y.cls = C ∧ k_dsc y nn) (hR : k_fit rm R maxL) (hls : ls.size = nL) (hst : st0 = As.reverse ++ .ref b :: rest) (hcat : (rest.map fun v => v.category).sum ≤ 8) (hdg : decode cc pc = .ok (.invokevirtual index, 3)) (hf : cells + rm.cells ≤ R.cells ∧ slots + rm.slots ≤ R.slots)
    (kx : ∀ (E : String) (ce : Cell) (q9 : Addr) (u : va_W) (H1 : Heap) (locs1 : List Loc), px E u → kG D A s u H1 locs1 → H1[q9]? = some ce → ce.vm = .none → s.vm.findClass E = some ce.cls → vx_W p l e R s m args below meth c H1 locs1 (cells + rm.cells) (slots + rm.slots) Q (F0 m pc ls rest) q9)
    (kk : ∀ (v : Option Value) (u : va_W) (H1 : Heap) (locs1 : List Loc), pst v u → kG D A s u H1 locs1 → W p l e R s m args below meth c H1 locs1 (cells + rm.cells) (slots + rm.slots) Q (F0 m (pc + 3) ls (v.toList ++ rest))) : W p l e R s m args below meth c H locs cells slots Q (F0 m pc ls st0) :=
  kh_run hC hG (vx_runV (g := F0 m pc ls st0) ⟨hC.x, hC.b, hC.nl, hC.o, hC.t⟩ (hM H.size) (cwV nn hC.t hg hw rfl rfl hd hR) ⟨kP.blind, va_recv hC.K hG.1 hc he, kh_pre hC hG⟩ rfl hnn hls hst (lv_room (m := m) (pc := pc) (ls := ls) (rest := st0) hcat) hdg hf) kx kk
theorem kh_catch {name E : String} {ce : Cell} {q : Addr} (hC : kH p l s m args meth c cc own wsm nL hh D ty z mi A) (pre : List ExceptionTableEntry) (x : ExceptionTableEntry) (suf : List ExceptionTableEntry) (hsplit : tableOf hh = pre ++ x :: suf)
    (hpass : ∀ y ∈ pre, y.catchType ≠ 0 ∧ ∃ nm : String, Cond.classLink own y.catchType nm ∈ wsm ∧ (E, nm) ∈ kNo) (hx : covers x pc = true) (h0 : x.catchType ≠ 0)
    (hlink : Cond.classLink own x.catchType name ∈ wsm) (hcast : Cond.castable E name ∈ kBad) (hcell : H[q]? = some ce) (hv : ce.vm = .none) (hcl : s.vm.findClass E = some ce.cls)
    (kk : W p l e R s m args below meth c H locs cells slots Q (F0 m x.handlerPc ls [.ref q])) : vx_W p l e R s m args below meth c H locs cells slots Q (F0 m pc ls rest) q :=
  vx_catch hC.o pre x suf (hC.et.trans hsplit) (fun y hy => by
    obtain ⟨h1, nm, h2, h3⟩ := hpass y hy
    exact Or.inr ⟨h1, nm, hC.t _ h2, hC.Z.2.1.2.1 _ h3⟩) hx h0 (hC.t _ hlink) (va_Nw.use rfl (hC.Z.2.1.1 _ hcast)) hcell hv hcl kk
end KH2
theorem kMH.of {l : Launch} (hl : l.stackTraces = false) {D : va_G} {ty : List (ClassId × FieldType)} {z mi : Nat} {y : MethodName} {wsm ws' : List Cond} {rm : Room} {av : List Value} {ws : va_W} {post : Option Value → va_W → Prop} {px : String → va_W → Prop} {cc : ByteArray} {maxL : Nat} {ret : Option FieldType} {hh : List (Nat × Nat × Nat × Nat)}
    (hy : plainName y.cls = true) (hw : wsm = Cond.codeWith y cc maxL ret hh :: ws') (hn : (lg_sl av).length ≤ maxL)
    (body : ∀ (p : Program) (e : Env) (s : State) (m : MethodId) (args : Array Value) (below : List Frame) (meth : Method) (c : Code) (A : Nat → Prop) (ls : Array Slot), kH p l s m args meth c cc y.cls wsm maxL hh D ty z mi A → meth.sig.returnType = ret → meth.name = y.name → kG D A s ws s.heap [] → lv_has ls maxL (lv_args 0 av) →
      W p l e rm s m args below meth c s.heap [] 0 0 (vx_MQ below (kQ D post A) (kXx D px A) args s rm.cells rm.slots A) (F0 m 0 ls [])) : kM l D ty z mi y wsm rm av ws post px := by
  intro sz
  refine vx_ofWH (cc := cc) (maxL := maxL) (ret := ret) (hh := hh) hy hw ?_
  intro p e s m args below meth c s₁ B hml hv
  have hts := atoms_spec (ws := wsm) B.pre
  have htb : c.exceptionTable.toList = tableOf hh := vx_table (x := y) B (hts _ (by rw [hw]; exact List.mem_cons_self))
  obtain ⟨rfl, hsz, hP, hK, hD, hZ⟩ := hv
  subst hsz
  have hown : s.vm.findClass y.cls = some m.cls := findClass_of_methodNamed B.named
  have hS : va_S (va_A ws s.heap.size) s.heap s.heap [] := va_S.rf
  have hl1 := lv_entry av (n := maxL) hn
  rw [lg_entry_eq]
  generalize (lg_sl av ++ List.replicate (maxL - (lg_sl av).length) Slot.unset).toArray = ls at hl1 ⊢
  exact body p e s m _ below meth c (va_A ws s.heap.size) ls ⟨B.exec, B.bytes, hml, hown, hts, B.notSynchronized, htb, hK, hZ, fun q h => Or.inr h, hl⟩ B.returns (name_of_methodNamed B.named B.method).1 ⟨hP, hD, hS⟩ hl1

set_option maxHeartbeats 4000000 in
set_option maxRecDepth 100000 in
/-- the law's call of begin -/
theorem K_L_begin (l : Launch) (hfl : l.stackTraces = false) (D : va_G) (cI cJ cZ cO : ClassId) (z mi : Nat) (hs : Nat) (a1 a2 : Int32) (wc : va_W) (q0 : Nat) (fs : List Value) (he : wc[q0]? = some (hs, .inr (4, fs))) (post : Option Value → va_W → Prop) (px : String → va_W → Prop) (hM : kM l D (kTy cI cJ cZ cO) z mi yX3_begin wsX3_begin ({ frames := 7, cells := 2, slots := 12, locals := 112 } : Room) [.ref hs, .int a1, .int a2] wc post px) (hv : ∀ v u, post v u → v = none) (hpx : ∀ E u, px E u → E = kIAE) : kM l D (kTy cI cJ cZ cO) z mi yL_begin wsL_begin ({ frames := 8, cells := 2, slots := 12, locals := 134 } : Room) [.ref hs, .int a1, .int a2] (wc) (fun v u => (post none u ∧ v = some (.int 0)) ∨ (px kIAE u ∧ v = some (.int 1))) (fun _ _ => False) := by
  refine kMH.of hfl (cc := cL_begin) (maxL := 4) (ret := some .int) (by decide) rfl (Nat.le_of_ble_eq_true rfl) ?_
  intro p e s m args below meth c A ls hC hr hmn hG hl
  have hx := hC.x
  have hb := hC.b
  have hl : lv_has ls 4 [(0, .ref hs), (1, .int a1), (2, .int a2)] := hl
  refine lv_aload_n hx hb dL_begin_0 rfl (lv_at hl 0 rfl) ?_
  refine lv_iload_n hx hb dL_begin_1 rfl (lv_at hl 1 rfl) ?_
  refine lv_iload_n hx hb dL_begin_2 rfl (lv_at hl 2 rfl) ?_
  refine kh_callV (nn := 2) (C := RX3) hC hG q0 he (ci := 4) rfl hM gL_begin_X3_begin rfl rfl (by decide +kernel) ⟨(Nat.le_of_ble_eq_true rfl), (Nat.le_of_ble_eq_true rfl)⟩ hl.1 rfl (Nat.le_of_ble_eq_true rfl) dL_begin_3 ⟨(Nat.le_of_ble_eq_true rfl), (Nat.le_of_ble_eq_true rfl)⟩ ?_ ?_
  · intro E9 ce9 q9 u9 H locs hp hG h91 h92 h93
    rcases hpx _ _ hp with rfl
    · refine kh_catch (name := kIAE) hC [] ⟨0, 6, 9, 13⟩ [] rfl (fun y9 hy => by cases hy) (by decide) (by decide) (List.mem_of_getElem? (i := 1) rfl) (List.mem_of_getElem? (i := 0) rfl) h91 h92 h93 ?_
      refine lv_astore_n (lv' := [(3, .ref q9), (0, .ref hs), (1, .int a1), (2, .int a2)]) hx hb dL_begin_9 rfl hl (by decide) rfl (fun ls hl => ?_)
      refine lv_iconst (v := 1) hx hb dL_begin_10 (by decide) ?_
      exact kh_reti hC hr hG (Or.inr (⟨hp, rfl⟩)) (Nat.le_of_ble_eq_true rfl) (Nat.le_of_ble_eq_true rfl) dL_begin_11
  · intro v9 u9 H locs hp hG
    have e9 := hv _ _ hp
    subst e9
    refine W.eq (g2 := F0 m 6 ls []) rfl ?_
    refine lv_goto (tgt := 12) hx hb dL_begin_6 (by decide) ?_
    refine lv_iconst (v := 0) hx hb dL_begin_12 (by decide) ?_
    exact kh_reti hC hr hG (Or.inl ⟨hp, rfl⟩) (Nat.le_of_ble_eq_true rfl) (Nat.le_of_ble_eq_true rfl) dL_begin_13

set_option maxHeartbeats 4000000 in
set_option maxRecDepth 100000 in
/-- the law's call of wall -/
theorem K_L_wall (l : Launch) (hfl : l.stackTraces = false) (D : va_G) (cI cJ cZ cO : ClassId) (z mi : Nat) (hs hO : Nat) (a1 a2 : Int32) (wc : va_W) (q0 : Nat) (fs : List Value) (he : wc[q0]? = some (hs, .inr (4, fs))) (g : Nat → Int64) (post : Option Value → va_W → Prop) (px : String → va_W → Prop) (hM : kM l D (kTy cI cJ cZ cO) z mi yX3_wall wsX3_wall ({ frames := 7, cells := 3, slots := 18, locals := 112 } : Room) [.ref hs, .int a1, .int a2] wc post px) (hv : ∀ v u, post v u → ∃ r : Int32, v = some (.int r)) (hpx : ∀ E u, px E u → E = kIAE ∨ E = kISE ∨ E = kIOB) : kM l D (kTy cI cJ cZ cO) z mi yL_wall wsL_wall ({ frames := 8, cells := 3, slots := 18, locals := 134 } : Room) [.ref hs, .int a1, .int a2, .ref hO] (wc ++ [(hO, .inl (cJ, 1, .inr (.inl g)))]) (fun v u => (∃ (r9 : Int32) (u1 : va_W), post (some (.int r9)) u1 ∧ v = some (.int 0) ∧ u = u1 ++ [(hO, .inl (cJ, 1, .inr (.inl (vp_updL g 0 (if r9 = 0 then 0 else 1)))))]) ∨ (∃ u1 : va_W, px kIAE u1 ∧ v = some (.int 1) ∧ u = u1 ++ [(hO, .inl (cJ, 1, .inr (.inl g)))]) ∨ (∃ u1 : va_W, px kISE u1 ∧ v = some (.int 2) ∧ u = u1 ++ [(hO, .inl (cJ, 1, .inr (.inl g)))]) ∨ (∃ u1 : va_W, px kIOB u1 ∧ v = some (.int 3) ∧ u = u1 ++ [(hO, .inl (cJ, 1, .inr (.inl g)))])) (fun _ _ => False) := by
  refine kMH.of hfl (cc := cL_wall) (maxL := 5) (ret := some .int) (by decide) rfl (Nat.le_of_ble_eq_true rfl) ?_
  intro p e s m args below meth c A ls hC hr hmn hG hl
  have hx := hC.x
  have hb := hC.b
  have hl : lv_has ls 5 [(0, .ref hs), (1, .int a1), (2, .int a2), (3, .ref hO)] := hl
  refine lv_aload_n hx hb dL_wall_0 rfl (lv_at hl 3 rfl) ?_
  refine lv_iconst (v := 0) hx hb dL_wall_1 (by decide) ?_
  refine lv_aload_n hx hb dL_wall_2 rfl (lv_at hl 0 rfl) ?_
  refine lv_iload_n hx hb dL_wall_3 rfl (lv_at hl 1 rfl) ?_
  refine lv_iload_n hx hb dL_wall_4 rfl (lv_at hl 2 rfl) ?_
  refine kh_callV (nn := 2) (C := RX3) hC hG q0 (k_appL he) (ci := 4) rfl (hM.frame _) gL_wall_X3_wall rfl rfl (by decide +kernel) ⟨(Nat.le_of_ble_eq_true rfl), (Nat.le_of_ble_eq_true rfl)⟩ hl.1 rfl (Nat.le_of_ble_eq_true rfl) dL_wall_5 ⟨(Nat.le_of_ble_eq_true rfl), (Nat.le_of_ble_eq_true rfl)⟩ ?_ ?_
  · intro E9 ce9 q9 u9 H locs hp hG h91 h92 h93
    obtain ⟨u1, hp, rfl⟩ := hp
    rcases hpx _ _ hp with rfl | rfl | rfl
    · refine kh_catch (name := kIAE) hC [] ⟨0, 17, 20, 13⟩ [⟨0, 17, 24, 19⟩, ⟨0, 17, 28, 21⟩] rfl (fun y9 hy => by cases hy) (by decide) (by decide) (List.mem_of_getElem? (i := 1) rfl) (List.mem_of_getElem? (i := 0) rfl) h91 h92 h93 ?_
      refine lv_astore (lv' := [(4, .ref q9), (0, .ref hs), (1, .int a1), (2, .int a2), (3, .ref hO)]) hx hb dL_wall_20 hl (by decide) rfl (fun ls hl => ?_)
      refine lv_iconst (v := 1) hx hb dL_wall_22 (by decide) ?_
      exact kh_reti hC hr hG (Or.inr (Or.inl ⟨u1, hp, rfl, rfl⟩)) (Nat.le_of_ble_eq_true rfl) (Nat.le_of_ble_eq_true rfl) dL_wall_23
    · refine kh_catch (name := kISE) hC [⟨0, 17, 20, 13⟩] ⟨0, 17, 24, 19⟩ [⟨0, 17, 28, 21⟩] rfl (fun y9 hy => by
        rcases List.mem_cons.mp hy with rfl | hy
        · exact ⟨by decide, kIAE, (List.mem_of_getElem? (i := 1) rfl), List.mem_of_getElem? (i := 2) rfl⟩
        cases hy) (by decide) (by decide) (List.mem_of_getElem? (i := 2) rfl) (List.mem_of_getElem? (i := 1) rfl) h91 h92 h93 ?_
      refine lv_astore (lv' := [(4, .ref q9), (0, .ref hs), (1, .int a1), (2, .int a2), (3, .ref hO)]) hx hb dL_wall_24 hl (by decide) rfl (fun ls hl => ?_)
      refine lv_iconst (v := 2) hx hb dL_wall_26 (by decide) ?_
      exact kh_reti hC hr hG (Or.inr (Or.inr (Or.inl ⟨u1, hp, rfl, rfl⟩))) (Nat.le_of_ble_eq_true rfl) (Nat.le_of_ble_eq_true rfl) dL_wall_27
    · refine kh_catch (name := kIOB) hC [⟨0, 17, 20, 13⟩, ⟨0, 17, 24, 19⟩] ⟨0, 17, 28, 21⟩ [] rfl (fun y9 hy => by
        rcases List.mem_cons.mp hy with rfl | hy
        · exact ⟨by decide, kIAE, (List.mem_of_getElem? (i := 1) rfl), List.mem_of_getElem? (i := 4) rfl⟩
        rcases List.mem_cons.mp hy with rfl | hy
        · exact ⟨by decide, kISE, (List.mem_of_getElem? (i := 2) rfl), List.mem_of_getElem? (i := 5) rfl⟩
        cases hy) (by decide) (by decide) (List.mem_of_getElem? (i := 3) rfl) (List.mem_of_getElem? (i := 2) rfl) h91 h92 h93 ?_
      refine lv_astore (lv' := [(4, .ref q9), (0, .ref hs), (1, .int a1), (2, .int a2), (3, .ref hO)]) hx hb dL_wall_28 hl (by decide) rfl (fun ls hl => ?_)
      refine lv_iconst (v := 3) hx hb dL_wall_30 (by decide) ?_
      exact kh_reti hC hr hG (Or.inr (Or.inr (Or.inr (⟨u1, hp, rfl, rfl⟩)))) (Nat.le_of_ble_eq_true rfl) (Nat.le_of_ble_eq_true rfl) dL_wall_31
  · intro v9 u9 H locs hp hG
    obtain ⟨u1, hp, rfl⟩ := hp
    obtain ⟨r9, rfl⟩ := hv _ _ hp
    refine W.eq (g2 := F0 m 8 ls [.int r9, .int 0, .ref hO]) rfl ?_
    refine k_if_eq (tgt := 15) hx hb dL_wall_8 (by decide) (fun c_1 => ?_) (fun c_1 => ?_)
    · refine lv_lconst (v := 0) hx hb dL_wall_15 (by decide) ?_
      refine va_last (f := g) (x := 0) hx hb hC.K hG.1 hG.2.1 hG.2.2 u1.length 1 (k_last _ _) rfl (by unfold vp_in; decide) dL_wall_16 (fun H locs h1 h2 h3 => ?_)
      have hG : kG D A s (u1 ++ [(hO, .inl (cJ, 1, .inr (.inl (vp_updL g 0 0))))]) H locs := by
        have h4 : kG D A s _ H locs := ⟨h1, h2, h3⟩
        rw [k_setlast] at h4
        exact h4
      refine lv_goto (tgt := 32) hx hb dL_wall_17 (by decide) ?_
      refine lv_iconst (v := 0) hx hb dL_wall_32 (by decide) ?_
      exact kh_reti hC hr hG (Or.inl ⟨r9, u1, hp, rfl, by rw [if_pos (of_decide_eq_true c_1)]⟩) (Nat.le_of_ble_eq_true rfl) (Nat.le_of_ble_eq_true rfl) dL_wall_33
    · refine lv_lconst (v := 1) hx hb dL_wall_11 (by decide) ?_
      refine lv_goto (tgt := 16) hx hb dL_wall_12 (by decide) ?_
      refine va_last (f := g) (x := 1) hx hb hC.K hG.1 hG.2.1 hG.2.2 u1.length 1 (k_last _ _) rfl (by unfold vp_in; decide) dL_wall_16 (fun H locs h1 h2 h3 => ?_)
      have hG : kG D A s (u1 ++ [(hO, .inl (cJ, 1, .inr (.inl (vp_updL g 0 1))))]) H locs := by
        have h4 : kG D A s _ H locs := ⟨h1, h2, h3⟩
        rw [k_setlast] at h4
        exact h4
      refine lv_goto (tgt := 32) hx hb dL_wall_17 (by decide) ?_
      refine lv_iconst (v := 0) hx hb dL_wall_32 (by decide) ?_
      exact kh_reti hC hr hG (Or.inl ⟨r9, u1, hp, rfl, by rw [if_neg (of_decide_eq_false c_1)]⟩) (Nat.le_of_ble_eq_true rfl) (Nat.le_of_ble_eq_true rfl) dL_wall_33

set_option maxHeartbeats 4000000 in
set_option maxRecDepth 100000 in
/-- the law's call of opening -/
theorem K_L_opening (l : Launch) (hfl : l.stackTraces = false) (D : va_G) (cI cJ cZ cO : ClassId) (z mi : Nat) (hs hO : Nat) (a1 a2 : Int32) (wc : va_W) (q0 : Nat) (fs : List Value) (he : wc[q0]? = some (hs, .inr (4, fs))) (g : Nat → Int64) (post : Option Value → va_W → Prop) (px : String → va_W → Prop) (hM : kM l D (kTy cI cJ cZ cO) z mi yX3_opening wsX3_opening ({ frames := 7, cells := 4, slots := 24, locals := 112 } : Room) [.ref hs, .int a1, .int a2] wc post px) (hv : ∀ v u, post v u → ∃ r : Int32, v = some (.int r)) (hpx : ∀ E u, px E u → E = kIAE ∨ E = kISE) : kM l D (kTy cI cJ cZ cO) z mi yL_opening wsL_opening ({ frames := 8, cells := 4, slots := 24, locals := 134 } : Room) [.ref hs, .int a1, .int a2, .ref hO] (wc ++ [(hO, .inl (cJ, 1, .inr (.inl g)))]) (fun v u => (∃ (r9 : Int32) (u1 : va_W), post (some (.int r9)) u1 ∧ v = some (.int 0) ∧ u = u1 ++ [(hO, .inl (cJ, 1, .inr (.inl (vp_updL g 0 r9.toInt64))))]) ∨ (∃ u1 : va_W, px kIAE u1 ∧ v = some (.int 1) ∧ u = u1 ++ [(hO, .inl (cJ, 1, .inr (.inl g)))]) ∨ (∃ u1 : va_W, px kISE u1 ∧ v = some (.int 2) ∧ u = u1 ++ [(hO, .inl (cJ, 1, .inr (.inl g)))])) (fun _ _ => False) := by
  refine kMH.of hfl (cc := cL_opening) (maxL := 5) (ret := some .int) (by decide) rfl (Nat.le_of_ble_eq_true rfl) ?_
  intro p e s m args below meth c A ls hC hr hmn hG hl
  have hx := hC.x
  have hb := hC.b
  have hl : lv_has ls 5 [(0, .ref hs), (1, .int a1), (2, .int a2), (3, .ref hO)] := hl
  refine lv_aload_n hx hb dL_opening_0 rfl (lv_at hl 3 rfl) ?_
  refine lv_iconst (v := 0) hx hb dL_opening_1 (by decide) ?_
  refine lv_aload_n hx hb dL_opening_2 rfl (lv_at hl 0 rfl) ?_
  refine lv_iload_n hx hb dL_opening_3 rfl (lv_at hl 1 rfl) ?_
  refine lv_iload_n hx hb dL_opening_4 rfl (lv_at hl 2 rfl) ?_
  refine kh_callV (nn := 2) (C := RX3) hC hG q0 (k_appL he) (ci := 4) rfl (hM.frame _) gL_opening_X3_opening rfl rfl (by decide +kernel) ⟨(Nat.le_of_ble_eq_true rfl), (Nat.le_of_ble_eq_true rfl)⟩ hl.1 rfl (Nat.le_of_ble_eq_true rfl) dL_opening_5 ⟨(Nat.le_of_ble_eq_true rfl), (Nat.le_of_ble_eq_true rfl)⟩ ?_ ?_
  · intro E9 ce9 q9 u9 H locs hp hG h91 h92 h93
    obtain ⟨u1, hp, rfl⟩ := hp
    rcases hpx _ _ hp with rfl | rfl
    · refine kh_catch (name := kIAE) hC [] ⟨0, 10, 13, 13⟩ [⟨0, 10, 17, 19⟩] rfl (fun y9 hy => by cases hy) (by decide) (by decide) (List.mem_of_getElem? (i := 1) rfl) (List.mem_of_getElem? (i := 0) rfl) h91 h92 h93 ?_
      refine lv_astore (lv' := [(4, .ref q9), (0, .ref hs), (1, .int a1), (2, .int a2), (3, .ref hO)]) hx hb dL_opening_13 hl (by decide) rfl (fun ls hl => ?_)
      refine lv_iconst (v := 1) hx hb dL_opening_15 (by decide) ?_
      exact kh_reti hC hr hG (Or.inr (Or.inl ⟨u1, hp, rfl, rfl⟩)) (Nat.le_of_ble_eq_true rfl) (Nat.le_of_ble_eq_true rfl) dL_opening_16
    · refine kh_catch (name := kISE) hC [⟨0, 10, 13, 13⟩] ⟨0, 10, 17, 19⟩ [] rfl (fun y9 hy => by
        rcases List.mem_cons.mp hy with rfl | hy
        · exact ⟨by decide, kIAE, (List.mem_of_getElem? (i := 1) rfl), List.mem_of_getElem? (i := 2) rfl⟩
        cases hy) (by decide) (by decide) (List.mem_of_getElem? (i := 2) rfl) (List.mem_of_getElem? (i := 1) rfl) h91 h92 h93 ?_
      refine lv_astore (lv' := [(4, .ref q9), (0, .ref hs), (1, .int a1), (2, .int a2), (3, .ref hO)]) hx hb dL_opening_17 hl (by decide) rfl (fun ls hl => ?_)
      refine lv_iconst (v := 2) hx hb dL_opening_19 (by decide) ?_
      exact kh_reti hC hr hG (Or.inr (Or.inr (⟨u1, hp, rfl, rfl⟩))) (Nat.le_of_ble_eq_true rfl) (Nat.le_of_ble_eq_true rfl) dL_opening_20
  · intro v9 u9 H locs hp hG
    obtain ⟨u1, hp, rfl⟩ := hp
    obtain ⟨r9, rfl⟩ := hv _ _ hp
    refine W.eq (g2 := F0 m 8 ls [.int r9, .int 0, .ref hO]) rfl ?_
    refine lv_i2l hx hb dL_opening_8 rfl ?_
    refine va_last (f := g) (x := r9.toInt64) hx hb hC.K hG.1 hG.2.1 hG.2.2 u1.length 1 (k_last _ _) rfl (by unfold vp_in; decide) dL_opening_9 (fun H locs h1 h2 h3 => ?_)
    have hG : kG D A s (u1 ++ [(hO, .inl (cJ, 1, .inr (.inl (vp_updL g 0 r9.toInt64))))]) H locs := by
      have h4 : kG D A s _ H locs := ⟨h1, h2, h3⟩
      rw [k_setlast] at h4
      exact h4
    refine lv_goto (tgt := 21) hx hb dL_opening_10 (by decide) ?_
    refine lv_iconst (v := 0) hx hb dL_opening_21 (by decide) ?_
    exact kh_reti hC hr hG (Or.inl ⟨r9, u1, hp, rfl, rfl⟩) (Nat.le_of_ble_eq_true rfl) (Nat.le_of_ble_eq_true rfl) dL_opening_22

set_option maxHeartbeats 4000000 in
set_option maxRecDepth 100000 in
/-- the law's call of limit -/
theorem K_L_limit (l : Launch) (hfl : l.stackTraces = false) (D : va_G) (cI cJ cZ cO : ClassId) (z mi : Nat) (hs hO : Nat) (a1 : Int32) (wc : va_W) (q0 : Nat) (fs : List Value) (he : wc[q0]? = some (hs, .inr (4, fs))) (g : Nat → Int64) (post : Option Value → va_W → Prop) (px : String → va_W → Prop) (hM : kM l D (kTy cI cJ cZ cO) z mi yX3_limit wsX3_limit ({ frames := 7, cells := 1, slots := 6, locals := 112 } : Room) [.ref hs, .int a1] wc post px) (hv : ∀ v u, post v u → ∃ r : Int32, v = some (.int r)) (hpx : ∀ E u, px E u → E = kIAE) : kM l D (kTy cI cJ cZ cO) z mi yL_limit wsL_limit ({ frames := 8, cells := 1, slots := 6, locals := 134 } : Room) [.ref hs, .int a1, .ref hO] (wc ++ [(hO, .inl (cJ, 1, .inr (.inl g)))]) (fun v u => (∃ (r9 : Int32) (u1 : va_W), post (some (.int r9)) u1 ∧ v = some (.int 0) ∧ u = u1 ++ [(hO, .inl (cJ, 1, .inr (.inl (vp_updL g 0 r9.toInt64))))]) ∨ (∃ u1 : va_W, px kIAE u1 ∧ v = some (.int 1) ∧ u = u1 ++ [(hO, .inl (cJ, 1, .inr (.inl g)))])) (fun _ _ => False) := by
  refine kMH.of hfl (cc := cL_limit) (maxL := 4) (ret := some .int) (by decide) rfl (Nat.le_of_ble_eq_true rfl) ?_
  intro p e s m args below meth c A ls hC hr hmn hG hl
  have hx := hC.x
  have hb := hC.b
  have hl : lv_has ls 4 [(0, .ref hs), (1, .int a1), (2, .ref hO)] := hl
  refine lv_aload_n hx hb dL_limit_0 rfl (lv_at hl 2 rfl) ?_
  refine lv_iconst (v := 0) hx hb dL_limit_1 (by decide) ?_
  refine lv_aload_n hx hb dL_limit_2 rfl (lv_at hl 0 rfl) ?_
  refine lv_iload_n hx hb dL_limit_3 rfl (lv_at hl 1 rfl) ?_
  refine kh_callV (nn := 1) (C := RX3) hC hG q0 (k_appL he) (ci := 4) rfl (hM.frame _) gL_limit_X3_limit rfl rfl (by decide +kernel) ⟨(Nat.le_of_ble_eq_true rfl), (Nat.le_of_ble_eq_true rfl)⟩ hl.1 rfl (Nat.le_of_ble_eq_true rfl) dL_limit_4 ⟨(Nat.le_of_ble_eq_true rfl), (Nat.le_of_ble_eq_true rfl)⟩ ?_ ?_
  · intro E9 ce9 q9 u9 H locs hp hG h91 h92 h93
    obtain ⟨u1, hp, rfl⟩ := hp
    rcases hpx _ _ hp with rfl
    · refine kh_catch (name := kIAE) hC [] ⟨0, 9, 12, 13⟩ [] rfl (fun y9 hy => by cases hy) (by decide) (by decide) (List.mem_of_getElem? (i := 1) rfl) (List.mem_of_getElem? (i := 0) rfl) h91 h92 h93 ?_
      refine lv_astore_n (lv' := [(3, .ref q9), (0, .ref hs), (1, .int a1), (2, .ref hO)]) hx hb dL_limit_12 rfl hl (by decide) rfl (fun ls hl => ?_)
      refine lv_iconst (v := 1) hx hb dL_limit_13 (by decide) ?_
      exact kh_reti hC hr hG (Or.inr (⟨u1, hp, rfl, rfl⟩)) (Nat.le_of_ble_eq_true rfl) (Nat.le_of_ble_eq_true rfl) dL_limit_14
  · intro v9 u9 H locs hp hG
    obtain ⟨u1, hp, rfl⟩ := hp
    obtain ⟨r9, rfl⟩ := hv _ _ hp
    refine W.eq (g2 := F0 m 7 ls [.int r9, .int 0, .ref hO]) rfl ?_
    refine lv_i2l hx hb dL_limit_7 rfl ?_
    refine va_last (f := g) (x := r9.toInt64) hx hb hC.K hG.1 hG.2.1 hG.2.2 u1.length 1 (k_last _ _) rfl (by unfold vp_in; decide) dL_limit_8 (fun H locs h1 h2 h3 => ?_)
    have hG : kG D A s (u1 ++ [(hO, .inl (cJ, 1, .inr (.inl (vp_updL g 0 r9.toInt64))))]) H locs := by
      have h4 : kG D A s _ H locs := ⟨h1, h2, h3⟩
      rw [k_setlast] at h4
      exact h4
    refine lv_goto (tgt := 15) hx hb dL_limit_9 (by decide) ?_
    refine lv_iconst (v := 0) hx hb dL_limit_15 (by decide) ?_
    exact kh_reti hC hr hG (Or.inl ⟨r9, u1, hp, rfl, rfl⟩) (Nat.le_of_ble_eq_true rfl) (Nat.le_of_ble_eq_true rfl) dL_limit_16

set_option maxHeartbeats 4000000 in
set_option maxRecDepth 100000 in
/-- the law's call of area -/
theorem K_L_area (l : Launch) (hfl : l.stackTraces = false) (D : va_G) (cI cJ cZ cO : ClassId) (z mi : Nat) (hs hO : Nat) (wc : va_W) (q0 : Nat) (fs : List Value) (he : wc[q0]? = some (hs, .inr (4, fs))) (g : Nat → Int64) (post : Option Value → va_W → Prop) (px : String → va_W → Prop) (hM : kM l D (kTy cI cJ cZ cO) z mi yX3_area wsX3_area ({ frames := 7, cells := 1, slots := 6, locals := 110 } : Room) [.ref hs] wc post px) (hv : ∀ v u, post v u → ∃ r : Int32, v = some (.int r)) (hpx : ∀ E u, px E u → E = kISE) : kM l D (kTy cI cJ cZ cO) z mi yL_area wsL_area ({ frames := 8, cells := 1, slots := 6, locals := 130 } : Room) [.ref hs, .ref hO] (wc ++ [(hO, .inl (cJ, 1, .inr (.inl g)))]) (fun v u => (∃ (r9 : Int32) (u1 : va_W), post (some (.int r9)) u1 ∧ v = some (.int 0) ∧ u = u1 ++ [(hO, .inl (cJ, 1, .inr (.inl (vp_updL g 0 r9.toInt64))))]) ∨ (∃ u1 : va_W, px kISE u1 ∧ v = some (.int 1) ∧ u = u1 ++ [(hO, .inl (cJ, 1, .inr (.inl g)))])) (fun _ _ => False) := by
  refine kMH.of hfl (cc := cL_area) (maxL := 3) (ret := some .int) (by decide) rfl (Nat.le_of_ble_eq_true rfl) ?_
  intro p e s m args below meth c A ls hC hr hmn hG hl
  have hx := hC.x
  have hb := hC.b
  have hl : lv_has ls 3 [(0, .ref hs), (1, .ref hO)] := hl
  refine lv_aload_n hx hb dL_area_0 rfl (lv_at hl 1 rfl) ?_
  refine lv_iconst (v := 0) hx hb dL_area_1 (by decide) ?_
  refine lv_aload_n hx hb dL_area_2 rfl (lv_at hl 0 rfl) ?_
  refine kh_callV (nn := 0) (C := RX3) hC hG q0 (k_appL he) (ci := 4) rfl (hM.frame _) gL_area_X3_area rfl rfl (by decide +kernel) ⟨(Nat.le_of_ble_eq_true rfl), (Nat.le_of_ble_eq_true rfl)⟩ hl.1 rfl (Nat.le_of_ble_eq_true rfl) dL_area_3 ⟨(Nat.le_of_ble_eq_true rfl), (Nat.le_of_ble_eq_true rfl)⟩ ?_ ?_
  · intro E9 ce9 q9 u9 H locs hp hG h91 h92 h93
    obtain ⟨u1, hp, rfl⟩ := hp
    rcases hpx _ _ hp with rfl
    · refine kh_catch (name := kISE) hC [] ⟨0, 8, 11, 19⟩ [] rfl (fun y9 hy => by cases hy) (by decide) (by decide) (List.mem_of_getElem? (i := 1) rfl) (List.mem_of_getElem? (i := 1) rfl) h91 h92 h93 ?_
      refine lv_astore_n (lv' := [(2, .ref q9), (0, .ref hs), (1, .ref hO)]) hx hb dL_area_11 rfl hl (by decide) rfl (fun ls hl => ?_)
      refine lv_iconst (v := 1) hx hb dL_area_12 (by decide) ?_
      exact kh_reti hC hr hG (Or.inr (⟨u1, hp, rfl, rfl⟩)) (Nat.le_of_ble_eq_true rfl) (Nat.le_of_ble_eq_true rfl) dL_area_13
  · intro v9 u9 H locs hp hG
    obtain ⟨u1, hp, rfl⟩ := hp
    obtain ⟨r9, rfl⟩ := hv _ _ hp
    refine W.eq (g2 := F0 m 6 ls [.int r9, .int 0, .ref hO]) rfl ?_
    refine lv_i2l hx hb dL_area_6 rfl ?_
    refine va_last (f := g) (x := r9.toInt64) hx hb hC.K hG.1 hG.2.1 hG.2.2 u1.length 1 (k_last _ _) rfl (by unfold vp_in; decide) dL_area_7 (fun H locs h1 h2 h3 => ?_)
    have hG : kG D A s (u1 ++ [(hO, .inl (cJ, 1, .inr (.inl (vp_updL g 0 r9.toInt64))))]) H locs := by
      have h4 : kG D A s _ H locs := ⟨h1, h2, h3⟩
      rw [k_setlast] at h4
      exact h4
    refine lv_goto (tgt := 14) hx hb dL_area_8 (by decide) ?_
    refine lv_iconst (v := 0) hx hb dL_area_14 (by decide) ?_
    exact kh_reti hC hr hG (Or.inl ⟨r9, u1, hp, rfl, rfl⟩) (Nat.le_of_ble_eq_true rfl) (Nat.le_of_ble_eq_true rfl) dL_area_15

set_option maxHeartbeats 4000000 in
set_option maxRecDepth 100000 in
/-- the law's call of areaByStrips -/
theorem K_L_areaByStrips (l : Launch) (hfl : l.stackTraces = false) (D : va_G) (cI cJ cZ cO : ClassId) (z mi : Nat) (hs hO : Nat) (wc : va_W) (q0 : Nat) (fs : List Value) (he : wc[q0]? = some (hs, .inr (4, fs))) (g : Nat → Int64) (post : Option Value → va_W → Prop) (px : String → va_W → Prop) (hM : kM l D (kTy cI cJ cZ cO) z mi yX3_areaByStrips wsX3_areaByStrips ({ frames := 7, cells := 1, slots := 6, locals := 110 } : Room) [.ref hs] wc post px) (hv : ∀ v u, post v u → ∃ r : Int32, v = some (.int r)) (hpx : ∀ E u, px E u → E = kISE) : kM l D (kTy cI cJ cZ cO) z mi yL_areaByStrips wsL_areaByStrips ({ frames := 8, cells := 1, slots := 6, locals := 130 } : Room) [.ref hs, .ref hO] (wc ++ [(hO, .inl (cJ, 1, .inr (.inl g)))]) (fun v u => (∃ (r9 : Int32) (u1 : va_W), post (some (.int r9)) u1 ∧ v = some (.int 0) ∧ u = u1 ++ [(hO, .inl (cJ, 1, .inr (.inl (vp_updL g 0 r9.toInt64))))]) ∨ (∃ u1 : va_W, px kISE u1 ∧ v = some (.int 1) ∧ u = u1 ++ [(hO, .inl (cJ, 1, .inr (.inl g)))])) (fun _ _ => False) := by
  refine kMH.of hfl (cc := cL_areaByStrips) (maxL := 3) (ret := some .int) (by decide) rfl (Nat.le_of_ble_eq_true rfl) ?_
  intro p e s m args below meth c A ls hC hr hmn hG hl
  have hx := hC.x
  have hb := hC.b
  have hl : lv_has ls 3 [(0, .ref hs), (1, .ref hO)] := hl
  refine lv_aload_n hx hb dL_areaByStrips_0 rfl (lv_at hl 1 rfl) ?_
  refine lv_iconst (v := 0) hx hb dL_areaByStrips_1 (by decide) ?_
  refine lv_aload_n hx hb dL_areaByStrips_2 rfl (lv_at hl 0 rfl) ?_
  refine kh_callV (nn := 0) (C := RX3) hC hG q0 (k_appL he) (ci := 4) rfl (hM.frame _) gL_areaByStrips_X3_areaByStrips rfl rfl (by decide +kernel) ⟨(Nat.le_of_ble_eq_true rfl), (Nat.le_of_ble_eq_true rfl)⟩ hl.1 rfl (Nat.le_of_ble_eq_true rfl) dL_areaByStrips_3 ⟨(Nat.le_of_ble_eq_true rfl), (Nat.le_of_ble_eq_true rfl)⟩ ?_ ?_
  · intro E9 ce9 q9 u9 H locs hp hG h91 h92 h93
    obtain ⟨u1, hp, rfl⟩ := hp
    rcases hpx _ _ hp with rfl
    · refine kh_catch (name := kISE) hC [] ⟨0, 8, 11, 19⟩ [] rfl (fun y9 hy => by cases hy) (by decide) (by decide) (List.mem_of_getElem? (i := 1) rfl) (List.mem_of_getElem? (i := 1) rfl) h91 h92 h93 ?_
      refine lv_astore_n (lv' := [(2, .ref q9), (0, .ref hs), (1, .ref hO)]) hx hb dL_areaByStrips_11 rfl hl (by decide) rfl (fun ls hl => ?_)
      refine lv_iconst (v := 1) hx hb dL_areaByStrips_12 (by decide) ?_
      exact kh_reti hC hr hG (Or.inr (⟨u1, hp, rfl, rfl⟩)) (Nat.le_of_ble_eq_true rfl) (Nat.le_of_ble_eq_true rfl) dL_areaByStrips_13
  · intro v9 u9 H locs hp hG
    obtain ⟨u1, hp, rfl⟩ := hp
    obtain ⟨r9, rfl⟩ := hv _ _ hp
    refine W.eq (g2 := F0 m 6 ls [.int r9, .int 0, .ref hO]) rfl ?_
    refine lv_i2l hx hb dL_areaByStrips_6 rfl ?_
    refine va_last (f := g) (x := r9.toInt64) hx hb hC.K hG.1 hG.2.1 hG.2.2 u1.length 1 (k_last _ _) rfl (by unfold vp_in; decide) dL_areaByStrips_7 (fun H locs h1 h2 h3 => ?_)
    have hG : kG D A s (u1 ++ [(hO, .inl (cJ, 1, .inr (.inl (vp_updL g 0 r9.toInt64))))]) H locs := by
      have h4 : kG D A s _ H locs := ⟨h1, h2, h3⟩
      rw [k_setlast] at h4
      exact h4
    refine lv_goto (tgt := 14) hx hb dL_areaByStrips_8 (by decide) ?_
    refine lv_iconst (v := 0) hx hb dL_areaByStrips_14 (by decide) ?_
    exact kh_reti hC hr hG (Or.inl ⟨r9, u1, hp, rfl, rfl⟩) (Nat.le_of_ble_eq_true rfl) (Nat.le_of_ble_eq_true rfl) dL_areaByStrips_15

set_option maxHeartbeats 4000000 in
set_option maxRecDepth 100000 in
/-- the law's call of netArea -/
theorem K_L_netArea (l : Launch) (hfl : l.stackTraces = false) (D : va_G) (cI cJ cZ cO : ClassId) (z mi : Nat) (hs hO : Nat) (wc : va_W) (q0 : Nat) (fs : List Value) (he : wc[q0]? = some (hs, .inr (4, fs))) (g : Nat → Int64) (post : Option Value → va_W → Prop) (px : String → va_W → Prop) (hM : kM l D (kTy cI cJ cZ cO) z mi yX3_netArea wsX3_netArea ({ frames := 7, cells := 1, slots := 6, locals := 110 } : Room) [.ref hs] wc post px) (hv : ∀ v u, post v u → ∃ r : Int32, v = some (.int r)) (hpx : ∀ E u, px E u → E = kISE) : kM l D (kTy cI cJ cZ cO) z mi yL_netArea wsL_netArea ({ frames := 8, cells := 1, slots := 6, locals := 130 } : Room) [.ref hs, .ref hO] (wc ++ [(hO, .inl (cJ, 1, .inr (.inl g)))]) (fun v u => (∃ (r9 : Int32) (u1 : va_W), post (some (.int r9)) u1 ∧ v = some (.int 0) ∧ u = u1 ++ [(hO, .inl (cJ, 1, .inr (.inl (vp_updL g 0 r9.toInt64))))]) ∨ (∃ u1 : va_W, px kISE u1 ∧ v = some (.int 1) ∧ u = u1 ++ [(hO, .inl (cJ, 1, .inr (.inl g)))])) (fun _ _ => False) := by
  refine kMH.of hfl (cc := cL_netArea) (maxL := 3) (ret := some .int) (by decide) rfl (Nat.le_of_ble_eq_true rfl) ?_
  intro p e s m args below meth c A ls hC hr hmn hG hl
  have hx := hC.x
  have hb := hC.b
  have hl : lv_has ls 3 [(0, .ref hs), (1, .ref hO)] := hl
  refine lv_aload_n hx hb dL_netArea_0 rfl (lv_at hl 1 rfl) ?_
  refine lv_iconst (v := 0) hx hb dL_netArea_1 (by decide) ?_
  refine lv_aload_n hx hb dL_netArea_2 rfl (lv_at hl 0 rfl) ?_
  refine kh_callV (nn := 0) (C := RX3) hC hG q0 (k_appL he) (ci := 4) rfl (hM.frame _) gL_netArea_X3_netArea rfl rfl (by decide +kernel) ⟨(Nat.le_of_ble_eq_true rfl), (Nat.le_of_ble_eq_true rfl)⟩ hl.1 rfl (Nat.le_of_ble_eq_true rfl) dL_netArea_3 ⟨(Nat.le_of_ble_eq_true rfl), (Nat.le_of_ble_eq_true rfl)⟩ ?_ ?_
  · intro E9 ce9 q9 u9 H locs hp hG h91 h92 h93
    obtain ⟨u1, hp, rfl⟩ := hp
    rcases hpx _ _ hp with rfl
    · refine kh_catch (name := kISE) hC [] ⟨0, 8, 11, 19⟩ [] rfl (fun y9 hy => by cases hy) (by decide) (by decide) (List.mem_of_getElem? (i := 1) rfl) (List.mem_of_getElem? (i := 1) rfl) h91 h92 h93 ?_
      refine lv_astore_n (lv' := [(2, .ref q9), (0, .ref hs), (1, .ref hO)]) hx hb dL_netArea_11 rfl hl (by decide) rfl (fun ls hl => ?_)
      refine lv_iconst (v := 1) hx hb dL_netArea_12 (by decide) ?_
      exact kh_reti hC hr hG (Or.inr (⟨u1, hp, rfl, rfl⟩)) (Nat.le_of_ble_eq_true rfl) (Nat.le_of_ble_eq_true rfl) dL_netArea_13
  · intro v9 u9 H locs hp hG
    obtain ⟨u1, hp, rfl⟩ := hp
    obtain ⟨r9, rfl⟩ := hv _ _ hp
    refine W.eq (g2 := F0 m 6 ls [.int r9, .int 0, .ref hO]) rfl ?_
    refine lv_i2l hx hb dL_netArea_6 rfl ?_
    refine va_last (f := g) (x := r9.toInt64) hx hb hC.K hG.1 hG.2.1 hG.2.2 u1.length 1 (k_last _ _) rfl (by unfold vp_in; decide) dL_netArea_7 (fun H locs h1 h2 h3 => ?_)
    have hG : kG D A s (u1 ++ [(hO, .inl (cJ, 1, .inr (.inl (vp_updL g 0 r9.toInt64))))]) H locs := by
      have h4 : kG D A s _ H locs := ⟨h1, h2, h3⟩
      rw [k_setlast] at h4
      exact h4
    refine lv_goto (tgt := 14) hx hb dL_netArea_8 (by decide) ?_
    refine lv_iconst (v := 0) hx hb dL_netArea_14 (by decide) ?_
    exact kh_reti hC hr hG (Or.inl ⟨r9, u1, hp, rfl, rfl⟩) (Nat.le_of_ble_eq_true rfl) (Nat.le_of_ble_eq_true rfl) dL_netArea_15

set_option maxHeartbeats 4000000 in
set_option maxRecDepth 100000 in
/-- the law's call of rate -/
theorem K_L_rate (l : Launch) (hfl : l.stackTraces = false) (D : va_G) (cI cJ cZ cO : ClassId) (z mi : Nat) (hs hO : Nat) (a1 a2 a3 : Int32) (wc : va_W) (q0 : Nat) (fs : List Value) (he : wc[q0]? = some (hs, .inr (4, fs))) (g : Nat → Int64) (post : Option Value → va_W → Prop) (px : String → va_W → Prop) (hM : kM l D (kTy cI cJ cZ cO) z mi yX3_rate wsX3_rate ({ frames := 7, cells := 6, slots := 120, locals := 300 } : Room) [.ref hs, .int a1, .int a2, .int a3] wc post px) (hv : ∀ v u, post v u → ∃ r : Int32, v = some (.int r)) (hpx : ∀ E u, px E u → E = kIAE ∨ E = kISE) : kM l D (kTy cI cJ cZ cO) z mi yL_rate wsL_rate ({ frames := 8, cells := 6, slots := 120, locals := 324 } : Room) [.ref hs, .int a1, .int a2, .int a3, .ref hO] (wc ++ [(hO, .inl (cJ, 1, .inr (.inl g)))]) (fun v u => (∃ (r9 : Int32) (u1 : va_W), post (some (.int r9)) u1 ∧ v = some (.int 0) ∧ u = u1 ++ [(hO, .inl (cJ, 1, .inr (.inl (vp_updL g 0 r9.toInt64))))]) ∨ (∃ u1 : va_W, px kIAE u1 ∧ v = some (.int 1) ∧ u = u1 ++ [(hO, .inl (cJ, 1, .inr (.inl g)))]) ∨ (∃ u1 : va_W, px kISE u1 ∧ v = some (.int 2) ∧ u = u1 ++ [(hO, .inl (cJ, 1, .inr (.inl g)))])) (fun _ _ => False) := by
  refine kMH.of hfl (cc := cL_rate) (maxL := 6) (ret := some .int) (by decide) rfl (Nat.le_of_ble_eq_true rfl) ?_
  intro p e s m args below meth c A ls hC hr hmn hG hl
  have hx := hC.x
  have hb := hC.b
  have hl : lv_has ls 6 [(0, .ref hs), (1, .int a1), (2, .int a2), (3, .int a3), (4, .ref hO)] := hl
  refine lv_aload hx hb dL_rate_0 (lv_at hl 4 rfl) ?_
  refine lv_iconst (v := 0) hx hb dL_rate_2 (by decide) ?_
  refine lv_aload_n hx hb dL_rate_3 rfl (lv_at hl 0 rfl) ?_
  refine lv_iload_n hx hb dL_rate_4 rfl (lv_at hl 1 rfl) ?_
  refine lv_iload_n hx hb dL_rate_5 rfl (lv_at hl 2 rfl) ?_
  refine lv_iload_n hx hb dL_rate_6 rfl (lv_at hl 3 rfl) ?_
  refine kh_callV (nn := 3) (C := RX3) hC hG q0 (k_appL he) (ci := 4) rfl (hM.frame _) gL_rate_X3_rate rfl rfl (by decide +kernel) ⟨(Nat.le_of_ble_eq_true rfl), (Nat.le_of_ble_eq_true rfl)⟩ hl.1 rfl (Nat.le_of_ble_eq_true rfl) dL_rate_7 ⟨(Nat.le_of_ble_eq_true rfl), (Nat.le_of_ble_eq_true rfl)⟩ ?_ ?_
  · intro E9 ce9 q9 u9 H locs hp hG h91 h92 h93
    obtain ⟨u1, hp, rfl⟩ := hp
    rcases hpx _ _ hp with rfl | rfl
    · refine kh_catch (name := kIAE) hC [] ⟨0, 12, 15, 13⟩ [⟨0, 12, 19, 19⟩] rfl (fun y9 hy => by cases hy) (by decide) (by decide) (List.mem_of_getElem? (i := 1) rfl) (List.mem_of_getElem? (i := 0) rfl) h91 h92 h93 ?_
      refine lv_astore (lv' := [(5, .ref q9), (0, .ref hs), (1, .int a1), (2, .int a2), (3, .int a3), (4, .ref hO)]) hx hb dL_rate_15 hl (by decide) rfl (fun ls hl => ?_)
      refine lv_iconst (v := 1) hx hb dL_rate_17 (by decide) ?_
      exact kh_reti hC hr hG (Or.inr (Or.inl ⟨u1, hp, rfl, rfl⟩)) (Nat.le_of_ble_eq_true rfl) (Nat.le_of_ble_eq_true rfl) dL_rate_18
    · refine kh_catch (name := kISE) hC [⟨0, 12, 15, 13⟩] ⟨0, 12, 19, 19⟩ [] rfl (fun y9 hy => by
        rcases List.mem_cons.mp hy with rfl | hy
        · exact ⟨by decide, kIAE, (List.mem_of_getElem? (i := 1) rfl), List.mem_of_getElem? (i := 2) rfl⟩
        cases hy) (by decide) (by decide) (List.mem_of_getElem? (i := 2) rfl) (List.mem_of_getElem? (i := 1) rfl) h91 h92 h93 ?_
      refine lv_astore (lv' := [(5, .ref q9), (0, .ref hs), (1, .int a1), (2, .int a2), (3, .int a3), (4, .ref hO)]) hx hb dL_rate_19 hl (by decide) rfl (fun ls hl => ?_)
      refine lv_iconst (v := 2) hx hb dL_rate_21 (by decide) ?_
      exact kh_reti hC hr hG (Or.inr (Or.inr (⟨u1, hp, rfl, rfl⟩))) (Nat.le_of_ble_eq_true rfl) (Nat.le_of_ble_eq_true rfl) dL_rate_22
  · intro v9 u9 H locs hp hG
    obtain ⟨u1, hp, rfl⟩ := hp
    obtain ⟨r9, rfl⟩ := hv _ _ hp
    refine W.eq (g2 := F0 m 10 ls [.int r9, .int 0, .ref hO]) rfl ?_
    refine lv_i2l hx hb dL_rate_10 rfl ?_
    refine va_last (f := g) (x := r9.toInt64) hx hb hC.K hG.1 hG.2.1 hG.2.2 u1.length 1 (k_last _ _) rfl (by unfold vp_in; decide) dL_rate_11 (fun H locs h1 h2 h3 => ?_)
    have hG : kG D A s (u1 ++ [(hO, .inl (cJ, 1, .inr (.inl (vp_updL g 0 r9.toInt64))))]) H locs := by
      have h4 : kG D A s _ H locs := ⟨h1, h2, h3⟩
      rw [k_setlast] at h4
      exact h4
    refine lv_goto (tgt := 23) hx hb dL_rate_12 (by decide) ?_
    refine lv_iconst (v := 0) hx hb dL_rate_23 (by decide) ?_
    exact kh_reti hC hr hG (Or.inl ⟨r9, u1, hp, rfl, rfl⟩) (Nat.le_of_ble_eq_true rfl) (Nat.le_of_ble_eq_true rfl) dL_rate_24

set_option maxHeartbeats 4000000 in
set_option maxRecDepth 100000 in
/-- the law's call of price -/
theorem K_L_price (l : Launch) (hfl : l.stackTraces = false) (D : va_G) (cI cJ cZ cO : ClassId) (z mi : Nat) (hs hO : Nat) (a1 a2 : Int32) (wc : va_W) (q0 : Nat) (fs : List Value) (he : wc[q0]? = some (hs, .inr (4, fs))) (g : Nat → Int64) (post : Option Value → va_W → Prop) (px : String → va_W → Prop) (hM : kM l D (kTy cI cJ cZ cO) z mi yX3_price wsX3_price ({ frames := 7, cells := 2, slots := 12, locals := 112 } : Room) [.ref hs, .int a1, .int a2] wc post px) (hv : ∀ v u, post v u → ∃ r : Int32, v = some (.int r)) (hpx : ∀ E u, px E u → E = kIAE) : kM l D (kTy cI cJ cZ cO) z mi yL_price wsL_price ({ frames := 8, cells := 2, slots := 12, locals := 135 } : Room) [.ref hs, .int a1, .int a2, .ref hO] (wc ++ [(hO, .inl (cJ, 1, .inr (.inl g)))]) (fun v u => (∃ (r9 : Int32) (u1 : va_W), post (some (.int r9)) u1 ∧ v = some (.int 0) ∧ u = u1 ++ [(hO, .inl (cJ, 1, .inr (.inl (vp_updL g 0 r9.toInt64))))]) ∨ (∃ u1 : va_W, px kIAE u1 ∧ v = some (.int 1) ∧ u = u1 ++ [(hO, .inl (cJ, 1, .inr (.inl g)))])) (fun _ _ => False) := by
  refine kMH.of hfl (cc := cL_price) (maxL := 5) (ret := some .int) (by decide) rfl (Nat.le_of_ble_eq_true rfl) ?_
  intro p e s m args below meth c A ls hC hr hmn hG hl
  have hx := hC.x
  have hb := hC.b
  have hl : lv_has ls 5 [(0, .ref hs), (1, .int a1), (2, .int a2), (3, .ref hO)] := hl
  refine lv_aload_n hx hb dL_price_0 rfl (lv_at hl 3 rfl) ?_
  refine lv_iconst (v := 0) hx hb dL_price_1 (by decide) ?_
  refine lv_aload_n hx hb dL_price_2 rfl (lv_at hl 0 rfl) ?_
  refine lv_iload_n hx hb dL_price_3 rfl (lv_at hl 1 rfl) ?_
  refine lv_iload_n hx hb dL_price_4 rfl (lv_at hl 2 rfl) ?_
  refine kh_callV (nn := 2) (C := RX3) hC hG q0 (k_appL he) (ci := 4) rfl (hM.frame _) gL_price_X3_price rfl rfl (by decide +kernel) ⟨(Nat.le_of_ble_eq_true rfl), (Nat.le_of_ble_eq_true rfl)⟩ hl.1 rfl (Nat.le_of_ble_eq_true rfl) dL_price_5 ⟨(Nat.le_of_ble_eq_true rfl), (Nat.le_of_ble_eq_true rfl)⟩ ?_ ?_
  · intro E9 ce9 q9 u9 H locs hp hG h91 h92 h93
    obtain ⟨u1, hp, rfl⟩ := hp
    rcases hpx _ _ hp with rfl
    · refine kh_catch (name := kIAE) hC [] ⟨0, 10, 13, 13⟩ [] rfl (fun y9 hy => by cases hy) (by decide) (by decide) (List.mem_of_getElem? (i := 1) rfl) (List.mem_of_getElem? (i := 0) rfl) h91 h92 h93 ?_
      refine lv_astore (lv' := [(4, .ref q9), (0, .ref hs), (1, .int a1), (2, .int a2), (3, .ref hO)]) hx hb dL_price_13 hl (by decide) rfl (fun ls hl => ?_)
      refine lv_iconst (v := 1) hx hb dL_price_15 (by decide) ?_
      exact kh_reti hC hr hG (Or.inr (⟨u1, hp, rfl, rfl⟩)) (Nat.le_of_ble_eq_true rfl) (Nat.le_of_ble_eq_true rfl) dL_price_16
  · intro v9 u9 H locs hp hG
    obtain ⟨u1, hp, rfl⟩ := hp
    obtain ⟨r9, rfl⟩ := hv _ _ hp
    refine W.eq (g2 := F0 m 8 ls [.int r9, .int 0, .ref hO]) rfl ?_
    refine lv_i2l hx hb dL_price_8 rfl ?_
    refine va_last (f := g) (x := r9.toInt64) hx hb hC.K hG.1 hG.2.1 hG.2.2 u1.length 1 (k_last _ _) rfl (by unfold vp_in; decide) dL_price_9 (fun H locs h1 h2 h3 => ?_)
    have hG : kG D A s (u1 ++ [(hO, .inl (cJ, 1, .inr (.inl (vp_updL g 0 r9.toInt64))))]) H locs := by
      have h4 : kG D A s _ H locs := ⟨h1, h2, h3⟩
      rw [k_setlast] at h4
      exact h4
    refine lv_goto (tgt := 17) hx hb dL_price_10 (by decide) ?_
    refine lv_iconst (v := 0) hx hb dL_price_17 (by decide) ?_
    exact kh_reti hC hr hG (Or.inl ⟨r9, u1, hp, rfl, rfl⟩) (Nat.le_of_ble_eq_true rfl) (Nat.le_of_ble_eq_true rfl) dL_price_18

set_option maxHeartbeats 4000000 in
set_option maxRecDepth 100000 in
/-- the law's call of rateOf -/
theorem K_L_rateOf (l : Launch) (hfl : l.stackTraces = false) (D : va_G) (cI cJ cZ cO : ClassId) (z mi : Nat) (hs hO : Nat) (a1 : Int32) (wc : va_W) (q0 : Nat) (fs : List Value) (he : wc[q0]? = some (hs, .inr (4, fs))) (g : Nat → Int64) (post : Option Value → va_W → Prop) (px : String → va_W → Prop) (hM : kM l D (kTy cI cJ cZ cO) z mi yX3_rateOf wsX3_rateOf ({ frames := 7, cells := 1, slots := 6, locals := 141 } : Room) [.ref hs, .int a1] wc post px) (hv : ∀ v u, post v u → ∃ r : Int32, v = some (.int r)) (hpx : ∀ E u, px E u → E = kIOB) : kM l D (kTy cI cJ cZ cO) z mi yL_rateOf wsL_rateOf ({ frames := 8, cells := 1, slots := 6, locals := 162 } : Room) [.ref hs, .int a1, .ref hO] (wc ++ [(hO, .inl (cJ, 1, .inr (.inl g)))]) (fun v u => (∃ (r9 : Int32) (u1 : va_W), post (some (.int r9)) u1 ∧ v = some (.int 0) ∧ u = u1 ++ [(hO, .inl (cJ, 1, .inr (.inl (vp_updL g 0 r9.toInt64))))]) ∨ (∃ u1 : va_W, px kIOB u1 ∧ v = some (.int 1) ∧ u = u1 ++ [(hO, .inl (cJ, 1, .inr (.inl g)))])) (fun _ _ => False) := by
  refine kMH.of hfl (cc := cL_rateOf) (maxL := 4) (ret := some .int) (by decide) rfl (Nat.le_of_ble_eq_true rfl) ?_
  intro p e s m args below meth c A ls hC hr hmn hG hl
  have hx := hC.x
  have hb := hC.b
  have hl : lv_has ls 4 [(0, .ref hs), (1, .int a1), (2, .ref hO)] := hl
  refine lv_aload_n hx hb dL_rateOf_0 rfl (lv_at hl 2 rfl) ?_
  refine lv_iconst (v := 0) hx hb dL_rateOf_1 (by decide) ?_
  refine lv_aload_n hx hb dL_rateOf_2 rfl (lv_at hl 0 rfl) ?_
  refine lv_iload_n hx hb dL_rateOf_3 rfl (lv_at hl 1 rfl) ?_
  refine kh_callV (nn := 1) (C := RX3) hC hG q0 (k_appL he) (ci := 4) rfl (hM.frame _) gL_rateOf_X3_rateOf rfl rfl (by decide +kernel) ⟨(Nat.le_of_ble_eq_true rfl), (Nat.le_of_ble_eq_true rfl)⟩ hl.1 rfl (Nat.le_of_ble_eq_true rfl) dL_rateOf_4 ⟨(Nat.le_of_ble_eq_true rfl), (Nat.le_of_ble_eq_true rfl)⟩ ?_ ?_
  · intro E9 ce9 q9 u9 H locs hp hG h91 h92 h93
    obtain ⟨u1, hp, rfl⟩ := hp
    rcases hpx _ _ hp with rfl
    · refine kh_catch (name := kIOB) hC [] ⟨0, 9, 12, 21⟩ [] rfl (fun y9 hy => by cases hy) (by decide) (by decide) (List.mem_of_getElem? (i := 1) rfl) (List.mem_of_getElem? (i := 2) rfl) h91 h92 h93 ?_
      refine lv_astore_n (lv' := [(3, .ref q9), (0, .ref hs), (1, .int a1), (2, .ref hO)]) hx hb dL_rateOf_12 rfl hl (by decide) rfl (fun ls hl => ?_)
      refine lv_iconst (v := 1) hx hb dL_rateOf_13 (by decide) ?_
      exact kh_reti hC hr hG (Or.inr (⟨u1, hp, rfl, rfl⟩)) (Nat.le_of_ble_eq_true rfl) (Nat.le_of_ble_eq_true rfl) dL_rateOf_14
  · intro v9 u9 H locs hp hG
    obtain ⟨u1, hp, rfl⟩ := hp
    obtain ⟨r9, rfl⟩ := hv _ _ hp
    refine W.eq (g2 := F0 m 7 ls [.int r9, .int 0, .ref hO]) rfl ?_
    refine lv_i2l hx hb dL_rateOf_7 rfl ?_
    refine va_last (f := g) (x := r9.toInt64) hx hb hC.K hG.1 hG.2.1 hG.2.2 u1.length 1 (k_last _ _) rfl (by unfold vp_in; decide) dL_rateOf_8 (fun H locs h1 h2 h3 => ?_)
    have hG : kG D A s (u1 ++ [(hO, .inl (cJ, 1, .inr (.inl (vp_updL g 0 r9.toInt64))))]) H locs := by
      have h4 : kG D A s _ H locs := ⟨h1, h2, h3⟩
      rw [k_setlast] at h4
      exact h4
    refine lv_goto (tgt := 15) hx hb dL_rateOf_9 (by decide) ?_
    refine lv_iconst (v := 0) hx hb dL_rateOf_15 (by decide) ?_
    exact kh_reti hC hr hG (Or.inl ⟨r9, u1, hp, rfl, rfl⟩) (Nat.le_of_ble_eq_true rfl) (Nat.le_of_ble_eq_true rfl) dL_rateOf_16

set_option maxHeartbeats 4000000 in
set_option maxRecDepth 100000 in
/-- the law's call of heading -/
theorem K_L_heading (l : Launch) (hfl : l.stackTraces = false) (D : va_G) (cI cJ cZ cO : ClassId) (z mi : Nat) (hs hO : Nat) (a1 : Int32) (wc : va_W) (q0 : Nat) (fs : List Value) (he : wc[q0]? = some (hs, .inr (4, fs))) (g : Nat → Int64) (post : Option Value → va_W → Prop) (px : String → va_W → Prop) (hM : kM l D (kTy cI cJ cZ cO) z mi yX3_heading wsX3_heading ({ frames := 8, cells := 5, slots := 86, locals := 323 } : Room) [.ref hs, .int a1] wc post px) (hv : ∀ v u, post v u → ∃ r : Int32, v = some (.int r)) (hpx : ∀ E u, px E u → E = kIOB ∨ E = kISE) : kM l D (kTy cI cJ cZ cO) z mi yL_heading wsL_heading ({ frames := 9, cells := 5, slots := 86, locals := 344 } : Room) [.ref hs, .int a1, .ref hO] (wc ++ [(hO, .inl (cJ, 1, .inr (.inl g)))]) (fun v u => (∃ (r9 : Int32) (u1 : va_W), post (some (.int r9)) u1 ∧ v = some (.int 0) ∧ u = u1 ++ [(hO, .inl (cJ, 1, .inr (.inl (vp_updL g 0 r9.toInt64))))]) ∨ (∃ u1 : va_W, px kIOB u1 ∧ v = some (.int 1) ∧ u = u1 ++ [(hO, .inl (cJ, 1, .inr (.inl g)))]) ∨ (∃ u1 : va_W, px kISE u1 ∧ v = some (.int 2) ∧ u = u1 ++ [(hO, .inl (cJ, 1, .inr (.inl g)))])) (fun _ _ => False) := by
  refine kMH.of hfl (cc := cL_heading) (maxL := 4) (ret := some .int) (by decide) rfl (Nat.le_of_ble_eq_true rfl) ?_
  intro p e s m args below meth c A ls hC hr hmn hG hl
  have hx := hC.x
  have hb := hC.b
  have hl : lv_has ls 4 [(0, .ref hs), (1, .int a1), (2, .ref hO)] := hl
  refine lv_aload_n hx hb dL_heading_0 rfl (lv_at hl 2 rfl) ?_
  refine lv_iconst (v := 0) hx hb dL_heading_1 (by decide) ?_
  refine lv_aload_n hx hb dL_heading_2 rfl (lv_at hl 0 rfl) ?_
  refine lv_iload_n hx hb dL_heading_3 rfl (lv_at hl 1 rfl) ?_
  refine kh_callV (nn := 1) (C := RX3) hC hG q0 (k_appL he) (ci := 4) rfl (hM.frame _) gL_heading_X3_heading rfl rfl (by decide +kernel) ⟨(Nat.le_of_ble_eq_true rfl), (Nat.le_of_ble_eq_true rfl)⟩ hl.1 rfl (Nat.le_of_ble_eq_true rfl) dL_heading_4 ⟨(Nat.le_of_ble_eq_true rfl), (Nat.le_of_ble_eq_true rfl)⟩ ?_ ?_
  · intro E9 ce9 q9 u9 H locs hp hG h91 h92 h93
    obtain ⟨u1, hp, rfl⟩ := hp
    rcases hpx _ _ hp with rfl | rfl
    · refine kh_catch (name := kIOB) hC [] ⟨0, 9, 12, 21⟩ [⟨0, 9, 15, 19⟩] rfl (fun y9 hy => by cases hy) (by decide) (by decide) (List.mem_of_getElem? (i := 1) rfl) (List.mem_of_getElem? (i := 2) rfl) h91 h92 h93 ?_
      refine lv_astore_n (lv' := [(3, .ref q9), (0, .ref hs), (1, .int a1), (2, .ref hO)]) hx hb dL_heading_12 rfl hl (by decide) rfl (fun ls hl => ?_)
      refine lv_iconst (v := 1) hx hb dL_heading_13 (by decide) ?_
      exact kh_reti hC hr hG (Or.inr (Or.inl ⟨u1, hp, rfl, rfl⟩)) (Nat.le_of_ble_eq_true rfl) (Nat.le_of_ble_eq_true rfl) dL_heading_14
    · refine kh_catch (name := kISE) hC [⟨0, 9, 12, 21⟩] ⟨0, 9, 15, 19⟩ [] rfl (fun y9 hy => by
        rcases List.mem_cons.mp hy with rfl | hy
        · exact ⟨by decide, kIOB, (List.mem_of_getElem? (i := 1) rfl), List.mem_of_getElem? (i := 3) rfl⟩
        cases hy) (by decide) (by decide) (List.mem_of_getElem? (i := 2) rfl) (List.mem_of_getElem? (i := 1) rfl) h91 h92 h93 ?_
      refine lv_astore_n (lv' := [(3, .ref q9), (0, .ref hs), (1, .int a1), (2, .ref hO)]) hx hb dL_heading_15 rfl hl (by decide) rfl (fun ls hl => ?_)
      refine lv_iconst (v := 2) hx hb dL_heading_16 (by decide) ?_
      exact kh_reti hC hr hG (Or.inr (Or.inr (⟨u1, hp, rfl, rfl⟩))) (Nat.le_of_ble_eq_true rfl) (Nat.le_of_ble_eq_true rfl) dL_heading_17
  · intro v9 u9 H locs hp hG
    obtain ⟨u1, hp, rfl⟩ := hp
    obtain ⟨r9, rfl⟩ := hv _ _ hp
    refine W.eq (g2 := F0 m 7 ls [.int r9, .int 0, .ref hO]) rfl ?_
    refine lv_i2l hx hb dL_heading_7 rfl ?_
    refine va_last (f := g) (x := r9.toInt64) hx hb hC.K hG.1 hG.2.1 hG.2.2 u1.length 1 (k_last _ _) rfl (by unfold vp_in; decide) dL_heading_8 (fun H locs h1 h2 h3 => ?_)
    have hG : kG D A s (u1 ++ [(hO, .inl (cJ, 1, .inr (.inl (vp_updL g 0 r9.toInt64))))]) H locs := by
      have h4 : kG D A s _ H locs := ⟨h1, h2, h3⟩
      rw [k_setlast] at h4
      exact h4
    refine lv_goto (tgt := 18) hx hb dL_heading_9 (by decide) ?_
    refine lv_iconst (v := 0) hx hb dL_heading_18 (by decide) ?_
    exact kh_reti hC hr hG (Or.inl ⟨r9, u1, hp, rfl, rfl⟩) (Nat.le_of_ble_eq_true rfl) (Nat.le_of_ble_eq_true rfl) dL_heading_19

set_option maxHeartbeats 4000000 in
set_option maxRecDepth 100000 in
/-- the law's call of leaf -/
theorem K_L_leaf (l : Launch) (hfl : l.stackTraces = false) (D : va_G) (cI cJ cZ cO : ClassId) (z mi : Nat) (hs hO : Nat) (a1 a2 a3 : Int32) (wc : va_W) (q0 : Nat) (fs : List Value) (he : wc[q0]? = some (hs, .inr (4, fs))) (g : Nat → Int64) (post : Option Value → va_W → Prop) (px : String → va_W → Prop) (hM : kM l D (kTy cI cJ cZ cO) z mi yX3_leaf wsX3_leaf ({ frames := 8, cells := 7, slots := 98, locals := 323 } : Room) [.ref hs, .int a1, .int a2, .int a3] wc post px) (hv : ∀ v u, post v u → ∃ r : Int32, v = some (.int r)) (hpx : ∀ E u, px E u → E = kIOB ∨ E = kIAE ∨ E = kISE) : kM l D (kTy cI cJ cZ cO) z mi yL_leaf wsL_leaf ({ frames := 9, cells := 7, slots := 98, locals := 348 } : Room) [.ref hs, .int a1, .int a2, .int a3, .ref hO] (wc ++ [(hO, .inl (cJ, 1, .inr (.inl g)))]) (fun v u => (∃ (r9 : Int32) (u1 : va_W), post (some (.int r9)) u1 ∧ v = some (.int 0) ∧ u = u1 ++ [(hO, .inl (cJ, 1, .inr (.inl (vp_updL g 0 r9.toInt64))))]) ∨ (∃ u1 : va_W, px kIOB u1 ∧ v = some (.int 1) ∧ u = u1 ++ [(hO, .inl (cJ, 1, .inr (.inl g)))]) ∨ (∃ u1 : va_W, px kIAE u1 ∧ v = some (.int 2) ∧ u = u1 ++ [(hO, .inl (cJ, 1, .inr (.inl g)))]) ∨ (∃ u1 : va_W, px kISE u1 ∧ v = some (.int 3) ∧ u = u1 ++ [(hO, .inl (cJ, 1, .inr (.inl g)))])) (fun _ _ => False) := by
  refine kMH.of hfl (cc := cL_leaf) (maxL := 6) (ret := some .int) (by decide) rfl (Nat.le_of_ble_eq_true rfl) ?_
  intro p e s m args below meth c A ls hC hr hmn hG hl
  have hx := hC.x
  have hb := hC.b
  have hl : lv_has ls 6 [(0, .ref hs), (1, .int a1), (2, .int a2), (3, .int a3), (4, .ref hO)] := hl
  refine lv_aload hx hb dL_leaf_0 (lv_at hl 4 rfl) ?_
  refine lv_iconst (v := 0) hx hb dL_leaf_2 (by decide) ?_
  refine lv_aload_n hx hb dL_leaf_3 rfl (lv_at hl 0 rfl) ?_
  refine lv_iload_n hx hb dL_leaf_4 rfl (lv_at hl 1 rfl) ?_
  refine lv_iload_n hx hb dL_leaf_5 rfl (lv_at hl 2 rfl) ?_
  refine lv_iload_n hx hb dL_leaf_6 rfl (lv_at hl 3 rfl) ?_
  refine kh_callV (nn := 3) (C := RX3) hC hG q0 (k_appL he) (ci := 4) rfl (hM.frame _) gL_leaf_X3_leaf rfl rfl (by decide +kernel) ⟨(Nat.le_of_ble_eq_true rfl), (Nat.le_of_ble_eq_true rfl)⟩ hl.1 rfl (Nat.le_of_ble_eq_true rfl) dL_leaf_7 ⟨(Nat.le_of_ble_eq_true rfl), (Nat.le_of_ble_eq_true rfl)⟩ ?_ ?_
  · intro E9 ce9 q9 u9 H locs hp hG h91 h92 h93
    obtain ⟨u1, hp, rfl⟩ := hp
    rcases hpx _ _ hp with rfl | rfl | rfl
    · refine kh_catch (name := kIOB) hC [] ⟨0, 12, 15, 21⟩ [⟨0, 12, 19, 13⟩, ⟨0, 12, 23, 19⟩] rfl (fun y9 hy => by cases hy) (by decide) (by decide) (List.mem_of_getElem? (i := 1) rfl) (List.mem_of_getElem? (i := 2) rfl) h91 h92 h93 ?_
      refine lv_astore (lv' := [(5, .ref q9), (0, .ref hs), (1, .int a1), (2, .int a2), (3, .int a3), (4, .ref hO)]) hx hb dL_leaf_15 hl (by decide) rfl (fun ls hl => ?_)
      refine lv_iconst (v := 1) hx hb dL_leaf_17 (by decide) ?_
      exact kh_reti hC hr hG (Or.inr (Or.inl ⟨u1, hp, rfl, rfl⟩)) (Nat.le_of_ble_eq_true rfl) (Nat.le_of_ble_eq_true rfl) dL_leaf_18
    · refine kh_catch (name := kIAE) hC [⟨0, 12, 15, 21⟩] ⟨0, 12, 19, 13⟩ [⟨0, 12, 23, 19⟩] rfl (fun y9 hy => by
        rcases List.mem_cons.mp hy with rfl | hy
        · exact ⟨by decide, kIOB, (List.mem_of_getElem? (i := 1) rfl), List.mem_of_getElem? (i := 1) rfl⟩
        cases hy) (by decide) (by decide) (List.mem_of_getElem? (i := 2) rfl) (List.mem_of_getElem? (i := 0) rfl) h91 h92 h93 ?_
      refine lv_astore (lv' := [(5, .ref q9), (0, .ref hs), (1, .int a1), (2, .int a2), (3, .int a3), (4, .ref hO)]) hx hb dL_leaf_19 hl (by decide) rfl (fun ls hl => ?_)
      refine lv_iconst (v := 2) hx hb dL_leaf_21 (by decide) ?_
      exact kh_reti hC hr hG (Or.inr (Or.inr (Or.inl ⟨u1, hp, rfl, rfl⟩))) (Nat.le_of_ble_eq_true rfl) (Nat.le_of_ble_eq_true rfl) dL_leaf_22
    · refine kh_catch (name := kISE) hC [⟨0, 12, 15, 21⟩, ⟨0, 12, 19, 13⟩] ⟨0, 12, 23, 19⟩ [] rfl (fun y9 hy => by
        rcases List.mem_cons.mp hy with rfl | hy
        · exact ⟨by decide, kIOB, (List.mem_of_getElem? (i := 1) rfl), List.mem_of_getElem? (i := 3) rfl⟩
        rcases List.mem_cons.mp hy with rfl | hy
        · exact ⟨by decide, kIAE, (List.mem_of_getElem? (i := 2) rfl), List.mem_of_getElem? (i := 2) rfl⟩
        cases hy) (by decide) (by decide) (List.mem_of_getElem? (i := 3) rfl) (List.mem_of_getElem? (i := 1) rfl) h91 h92 h93 ?_
      refine lv_astore (lv' := [(5, .ref q9), (0, .ref hs), (1, .int a1), (2, .int a2), (3, .int a3), (4, .ref hO)]) hx hb dL_leaf_23 hl (by decide) rfl (fun ls hl => ?_)
      refine lv_iconst (v := 3) hx hb dL_leaf_25 (by decide) ?_
      exact kh_reti hC hr hG (Or.inr (Or.inr (Or.inr (⟨u1, hp, rfl, rfl⟩)))) (Nat.le_of_ble_eq_true rfl) (Nat.le_of_ble_eq_true rfl) dL_leaf_26
  · intro v9 u9 H locs hp hG
    obtain ⟨u1, hp, rfl⟩ := hp
    obtain ⟨r9, rfl⟩ := hv _ _ hp
    refine W.eq (g2 := F0 m 10 ls [.int r9, .int 0, .ref hO]) rfl ?_
    refine lv_i2l hx hb dL_leaf_10 rfl ?_
    refine va_last (f := g) (x := r9.toInt64) hx hb hC.K hG.1 hG.2.1 hG.2.2 u1.length 1 (k_last _ _) rfl (by unfold vp_in; decide) dL_leaf_11 (fun H locs h1 h2 h3 => ?_)
    have hG : kG D A s (u1 ++ [(hO, .inl (cJ, 1, .inr (.inl (vp_updL g 0 r9.toInt64))))]) H locs := by
      have h4 : kG D A s _ H locs := ⟨h1, h2, h3⟩
      rw [k_setlast] at h4
      exact h4
    refine lv_goto (tgt := 27) hx hb dL_leaf_12 (by decide) ?_
    refine lv_iconst (v := 0) hx hb dL_leaf_27 (by decide) ?_
    exact kh_reti hC hr hG (Or.inl ⟨r9, u1, hp, rfl, rfl⟩) (Nat.le_of_ble_eq_true rfl) (Nat.le_of_ble_eq_true rfl) dL_leaf_28

set_option maxHeartbeats 4000000 in
set_option maxRecDepth 100000 in
/-- the law's call of take -/
theorem K_L_take (l : Launch) (hfl : l.stackTraces = false) (D : va_G) (cI cJ cZ cO : ClassId) (z mi : Nat) (hs hO : Nat) (a1 a2 : Int32) (wc : va_W) (q0 : Nat) (fs : List Value) (he : wc[q0]? = some (hs, .inr (4, fs))) (g : Nat → Int64) (post : Option Value → va_W → Prop) (px : String → va_W → Prop) (hM : kM l D (kTy cI cJ cZ cO) z mi yX3_take wsX3_take ({ frames := 7, cells := 4, slots := 24, locals := 141 } : Room) [.ref hs, .int a1, .int a2] wc post px) (hv : ∀ v u, post v u → ∃ r : Int32, v = some (.int r)) (hpx : ∀ E u, px E u → E = kIOB ∨ E = kIAE ∨ E = kISE) : kM l D (kTy cI cJ cZ cO) z mi yL_take wsL_take ({ frames := 8, cells := 4, slots := 24, locals := 164 } : Room) [.ref hs, .int a1, .int a2, .ref hO] (wc ++ [(hO, .inl (cJ, 1, .inr (.inl g)))]) (fun v u => (∃ (r9 : Int32) (u1 : va_W), post (some (.int r9)) u1 ∧ v = some (.int 0) ∧ u = u1 ++ [(hO, .inl (cJ, 1, .inr (.inl (vp_updL g 0 r9.toInt64))))]) ∨ (∃ u1 : va_W, px kIOB u1 ∧ v = some (.int 1) ∧ u = u1 ++ [(hO, .inl (cJ, 1, .inr (.inl g)))]) ∨ (∃ u1 : va_W, px kIAE u1 ∧ v = some (.int 2) ∧ u = u1 ++ [(hO, .inl (cJ, 1, .inr (.inl g)))]) ∨ (∃ u1 : va_W, px kISE u1 ∧ v = some (.int 3) ∧ u = u1 ++ [(hO, .inl (cJ, 1, .inr (.inl g)))])) (fun _ _ => False) := by
  refine kMH.of hfl (cc := cL_take) (maxL := 5) (ret := some .int) (by decide) rfl (Nat.le_of_ble_eq_true rfl) ?_
  intro p e s m args below meth c A ls hC hr hmn hG hl
  have hx := hC.x
  have hb := hC.b
  have hl : lv_has ls 5 [(0, .ref hs), (1, .int a1), (2, .int a2), (3, .ref hO)] := hl
  refine lv_aload_n hx hb dL_take_0 rfl (lv_at hl 3 rfl) ?_
  refine lv_iconst (v := 0) hx hb dL_take_1 (by decide) ?_
  refine lv_aload_n hx hb dL_take_2 rfl (lv_at hl 0 rfl) ?_
  refine lv_iload_n hx hb dL_take_3 rfl (lv_at hl 1 rfl) ?_
  refine lv_iload_n hx hb dL_take_4 rfl (lv_at hl 2 rfl) ?_
  refine kh_callV (nn := 2) (C := RX3) hC hG q0 (k_appL he) (ci := 4) rfl (hM.frame _) gL_take_X3_take rfl rfl (by decide +kernel) ⟨(Nat.le_of_ble_eq_true rfl), (Nat.le_of_ble_eq_true rfl)⟩ hl.1 rfl (Nat.le_of_ble_eq_true rfl) dL_take_5 ⟨(Nat.le_of_ble_eq_true rfl), (Nat.le_of_ble_eq_true rfl)⟩ ?_ ?_
  · intro E9 ce9 q9 u9 H locs hp hG h91 h92 h93
    obtain ⟨u1, hp, rfl⟩ := hp
    rcases hpx _ _ hp with rfl | rfl | rfl
    · refine kh_catch (name := kIOB) hC [] ⟨0, 10, 13, 21⟩ [⟨0, 10, 17, 13⟩, ⟨0, 10, 21, 19⟩] rfl (fun y9 hy => by cases hy) (by decide) (by decide) (List.mem_of_getElem? (i := 1) rfl) (List.mem_of_getElem? (i := 2) rfl) h91 h92 h93 ?_
      refine lv_astore (lv' := [(4, .ref q9), (0, .ref hs), (1, .int a1), (2, .int a2), (3, .ref hO)]) hx hb dL_take_13 hl (by decide) rfl (fun ls hl => ?_)
      refine lv_iconst (v := 1) hx hb dL_take_15 (by decide) ?_
      exact kh_reti hC hr hG (Or.inr (Or.inl ⟨u1, hp, rfl, rfl⟩)) (Nat.le_of_ble_eq_true rfl) (Nat.le_of_ble_eq_true rfl) dL_take_16
    · refine kh_catch (name := kIAE) hC [⟨0, 10, 13, 21⟩] ⟨0, 10, 17, 13⟩ [⟨0, 10, 21, 19⟩] rfl (fun y9 hy => by
        rcases List.mem_cons.mp hy with rfl | hy
        · exact ⟨by decide, kIOB, (List.mem_of_getElem? (i := 1) rfl), List.mem_of_getElem? (i := 1) rfl⟩
        cases hy) (by decide) (by decide) (List.mem_of_getElem? (i := 2) rfl) (List.mem_of_getElem? (i := 0) rfl) h91 h92 h93 ?_
      refine lv_astore (lv' := [(4, .ref q9), (0, .ref hs), (1, .int a1), (2, .int a2), (3, .ref hO)]) hx hb dL_take_17 hl (by decide) rfl (fun ls hl => ?_)
      refine lv_iconst (v := 2) hx hb dL_take_19 (by decide) ?_
      exact kh_reti hC hr hG (Or.inr (Or.inr (Or.inl ⟨u1, hp, rfl, rfl⟩))) (Nat.le_of_ble_eq_true rfl) (Nat.le_of_ble_eq_true rfl) dL_take_20
    · refine kh_catch (name := kISE) hC [⟨0, 10, 13, 21⟩, ⟨0, 10, 17, 13⟩] ⟨0, 10, 21, 19⟩ [] rfl (fun y9 hy => by
        rcases List.mem_cons.mp hy with rfl | hy
        · exact ⟨by decide, kIOB, (List.mem_of_getElem? (i := 1) rfl), List.mem_of_getElem? (i := 3) rfl⟩
        rcases List.mem_cons.mp hy with rfl | hy
        · exact ⟨by decide, kIAE, (List.mem_of_getElem? (i := 2) rfl), List.mem_of_getElem? (i := 2) rfl⟩
        cases hy) (by decide) (by decide) (List.mem_of_getElem? (i := 3) rfl) (List.mem_of_getElem? (i := 1) rfl) h91 h92 h93 ?_
      refine lv_astore (lv' := [(4, .ref q9), (0, .ref hs), (1, .int a1), (2, .int a2), (3, .ref hO)]) hx hb dL_take_21 hl (by decide) rfl (fun ls hl => ?_)
      refine lv_iconst (v := 3) hx hb dL_take_23 (by decide) ?_
      exact kh_reti hC hr hG (Or.inr (Or.inr (Or.inr (⟨u1, hp, rfl, rfl⟩)))) (Nat.le_of_ble_eq_true rfl) (Nat.le_of_ble_eq_true rfl) dL_take_24
  · intro v9 u9 H locs hp hG
    obtain ⟨u1, hp, rfl⟩ := hp
    obtain ⟨r9, rfl⟩ := hv _ _ hp
    refine W.eq (g2 := F0 m 8 ls [.int r9, .int 0, .ref hO]) rfl ?_
    refine lv_i2l hx hb dL_take_8 rfl ?_
    refine va_last (f := g) (x := r9.toInt64) hx hb hC.K hG.1 hG.2.1 hG.2.2 u1.length 1 (k_last _ _) rfl (by unfold vp_in; decide) dL_take_9 (fun H locs h1 h2 h3 => ?_)
    have hG : kG D A s (u1 ++ [(hO, .inl (cJ, 1, .inr (.inl (vp_updL g 0 r9.toInt64))))]) H locs := by
      have h4 : kG D A s _ H locs := ⟨h1, h2, h3⟩
      rw [k_setlast] at h4
      exact h4
    refine lv_goto (tgt := 25) hx hb dL_take_10 (by decide) ?_
    refine lv_iconst (v := 0) hx hb dL_take_25 (by decide) ?_
    exact kh_reti hC hr hG (Or.inl ⟨r9, u1, hp, rfl, rfl⟩) (Nat.le_of_ble_eq_true rfl) (Nat.le_of_ble_eq_true rfl) dL_take_26

set_option maxHeartbeats 4000000 in
set_option maxRecDepth 100000 in
/-- the law's call of vary -/
theorem K_L_vary (l : Launch) (hfl : l.stackTraces = false) (D : va_G) (cI cJ cZ cO : ClassId) (z mi : Nat) (hs hO : Nat) (a1 a2 : Int32) (wc : va_W) (q0 : Nat) (fs : List Value) (he : wc[q0]? = some (hs, .inr (4, fs))) (g : Nat → Int64) (post : Option Value → va_W → Prop) (px : String → va_W → Prop) (hM : kM l D (kTy cI cJ cZ cO) z mi yX3_vary wsX3_vary ({ frames := 7, cells := 4, slots := 24, locals := 141 } : Room) [.ref hs, .int a1, .int a2] wc post px) (hv : ∀ v u, post v u → ∃ r : Int32, v = some (.int r)) (hpx : ∀ E u, px E u → E = kIOB ∨ E = kIAE ∨ E = kISE) : kM l D (kTy cI cJ cZ cO) z mi yL_vary wsL_vary ({ frames := 8, cells := 4, slots := 24, locals := 165 } : Room) [.ref hs, .int a1, .int a2, .ref hO] (wc ++ [(hO, .inl (cJ, 1, .inr (.inl g)))]) (fun v u => (∃ (r9 : Int32) (u1 : va_W), post (some (.int r9)) u1 ∧ v = some (.int 0) ∧ u = u1 ++ [(hO, .inl (cJ, 1, .inr (.inl (vp_updL g 0 r9.toInt64))))]) ∨ (∃ u1 : va_W, px kIOB u1 ∧ v = some (.int 1) ∧ u = u1 ++ [(hO, .inl (cJ, 1, .inr (.inl g)))]) ∨ (∃ u1 : va_W, px kIAE u1 ∧ v = some (.int 2) ∧ u = u1 ++ [(hO, .inl (cJ, 1, .inr (.inl g)))]) ∨ (∃ u1 : va_W, px kISE u1 ∧ v = some (.int 3) ∧ u = u1 ++ [(hO, .inl (cJ, 1, .inr (.inl g)))])) (fun _ _ => False) := by
  refine kMH.of hfl (cc := cL_vary) (maxL := 5) (ret := some .int) (by decide) rfl (Nat.le_of_ble_eq_true rfl) ?_
  intro p e s m args below meth c A ls hC hr hmn hG hl
  have hx := hC.x
  have hb := hC.b
  have hl : lv_has ls 5 [(0, .ref hs), (1, .int a1), (2, .int a2), (3, .ref hO)] := hl
  refine lv_aload_n hx hb dL_vary_0 rfl (lv_at hl 3 rfl) ?_
  refine lv_iconst (v := 0) hx hb dL_vary_1 (by decide) ?_
  refine lv_aload_n hx hb dL_vary_2 rfl (lv_at hl 0 rfl) ?_
  refine lv_iload_n hx hb dL_vary_3 rfl (lv_at hl 1 rfl) ?_
  refine lv_iload_n hx hb dL_vary_4 rfl (lv_at hl 2 rfl) ?_
  refine kh_callV (nn := 2) (C := RX3) hC hG q0 (k_appL he) (ci := 4) rfl (hM.frame _) gL_vary_X3_vary rfl rfl (by decide +kernel) ⟨(Nat.le_of_ble_eq_true rfl), (Nat.le_of_ble_eq_true rfl)⟩ hl.1 rfl (Nat.le_of_ble_eq_true rfl) dL_vary_5 ⟨(Nat.le_of_ble_eq_true rfl), (Nat.le_of_ble_eq_true rfl)⟩ ?_ ?_
  · intro E9 ce9 q9 u9 H locs hp hG h91 h92 h93
    obtain ⟨u1, hp, rfl⟩ := hp
    rcases hpx _ _ hp with rfl | rfl | rfl
    · refine kh_catch (name := kIOB) hC [] ⟨0, 10, 13, 21⟩ [⟨0, 10, 17, 13⟩, ⟨0, 10, 21, 19⟩] rfl (fun y9 hy => by cases hy) (by decide) (by decide) (List.mem_of_getElem? (i := 1) rfl) (List.mem_of_getElem? (i := 2) rfl) h91 h92 h93 ?_
      refine lv_astore (lv' := [(4, .ref q9), (0, .ref hs), (1, .int a1), (2, .int a2), (3, .ref hO)]) hx hb dL_vary_13 hl (by decide) rfl (fun ls hl => ?_)
      refine lv_iconst (v := 1) hx hb dL_vary_15 (by decide) ?_
      exact kh_reti hC hr hG (Or.inr (Or.inl ⟨u1, hp, rfl, rfl⟩)) (Nat.le_of_ble_eq_true rfl) (Nat.le_of_ble_eq_true rfl) dL_vary_16
    · refine kh_catch (name := kIAE) hC [⟨0, 10, 13, 21⟩] ⟨0, 10, 17, 13⟩ [⟨0, 10, 21, 19⟩] rfl (fun y9 hy => by
        rcases List.mem_cons.mp hy with rfl | hy
        · exact ⟨by decide, kIOB, (List.mem_of_getElem? (i := 1) rfl), List.mem_of_getElem? (i := 1) rfl⟩
        cases hy) (by decide) (by decide) (List.mem_of_getElem? (i := 2) rfl) (List.mem_of_getElem? (i := 0) rfl) h91 h92 h93 ?_
      refine lv_astore (lv' := [(4, .ref q9), (0, .ref hs), (1, .int a1), (2, .int a2), (3, .ref hO)]) hx hb dL_vary_17 hl (by decide) rfl (fun ls hl => ?_)
      refine lv_iconst (v := 2) hx hb dL_vary_19 (by decide) ?_
      exact kh_reti hC hr hG (Or.inr (Or.inr (Or.inl ⟨u1, hp, rfl, rfl⟩))) (Nat.le_of_ble_eq_true rfl) (Nat.le_of_ble_eq_true rfl) dL_vary_20
    · refine kh_catch (name := kISE) hC [⟨0, 10, 13, 21⟩, ⟨0, 10, 17, 13⟩] ⟨0, 10, 21, 19⟩ [] rfl (fun y9 hy => by
        rcases List.mem_cons.mp hy with rfl | hy
        · exact ⟨by decide, kIOB, (List.mem_of_getElem? (i := 1) rfl), List.mem_of_getElem? (i := 3) rfl⟩
        rcases List.mem_cons.mp hy with rfl | hy
        · exact ⟨by decide, kIAE, (List.mem_of_getElem? (i := 2) rfl), List.mem_of_getElem? (i := 2) rfl⟩
        cases hy) (by decide) (by decide) (List.mem_of_getElem? (i := 3) rfl) (List.mem_of_getElem? (i := 1) rfl) h91 h92 h93 ?_
      refine lv_astore (lv' := [(4, .ref q9), (0, .ref hs), (1, .int a1), (2, .int a2), (3, .ref hO)]) hx hb dL_vary_21 hl (by decide) rfl (fun ls hl => ?_)
      refine lv_iconst (v := 3) hx hb dL_vary_23 (by decide) ?_
      exact kh_reti hC hr hG (Or.inr (Or.inr (Or.inr (⟨u1, hp, rfl, rfl⟩)))) (Nat.le_of_ble_eq_true rfl) (Nat.le_of_ble_eq_true rfl) dL_vary_24
  · intro v9 u9 H locs hp hG
    obtain ⟨u1, hp, rfl⟩ := hp
    obtain ⟨r9, rfl⟩ := hv _ _ hp
    refine W.eq (g2 := F0 m 8 ls [.int r9, .int 0, .ref hO]) rfl ?_
    refine lv_i2l hx hb dL_vary_8 rfl ?_
    refine va_last (f := g) (x := r9.toInt64) hx hb hC.K hG.1 hG.2.1 hG.2.2 u1.length 1 (k_last _ _) rfl (by unfold vp_in; decide) dL_vary_9 (fun H locs h1 h2 h3 => ?_)
    have hG : kG D A s (u1 ++ [(hO, .inl (cJ, 1, .inr (.inl (vp_updL g 0 r9.toInt64))))]) H locs := by
      have h4 : kG D A s _ H locs := ⟨h1, h2, h3⟩
      rw [k_setlast] at h4
      exact h4
    refine lv_goto (tgt := 25) hx hb dL_vary_10 (by decide) ?_
    refine lv_iconst (v := 0) hx hb dL_vary_25 (by decide) ?_
    exact kh_reti hC hr hG (Or.inl ⟨r9, u1, hp, rfl, rfl⟩) (Nat.le_of_ble_eq_true rfl) (Nat.le_of_ble_eq_true rfl) dL_vary_26

set_option maxHeartbeats 4000000 in
set_option maxRecDepth 100000 in
/-- the law's call of quantity -/
theorem K_L_quantity (l : Launch) (hfl : l.stackTraces = false) (D : va_G) (cI cJ cZ cO : ClassId) (z mi : Nat) (hs hO : Nat) (a1 : Int32) (wc : va_W) (q0 : Nat) (fs : List Value) (he : wc[q0]? = some (hs, .inr (4, fs))) (g : Nat → Int64) (post : Option Value → va_W → Prop) (px : String → va_W → Prop) (hM : kM l D (kTy cI cJ cZ cO) z mi yX3_quantity wsX3_quantity ({ frames := 7, cells := 2, slots := 12, locals := 141 } : Room) [.ref hs, .int a1] wc post px) (hv : ∀ v u, post v u → ∃ r : Int32, v = some (.int r)) (hpx : ∀ E u, px E u → E = kIOB ∨ E = kISE) : kM l D (kTy cI cJ cZ cO) z mi yL_quantity wsL_quantity ({ frames := 8, cells := 2, slots := 12, locals := 163 } : Room) [.ref hs, .int a1, .ref hO] (wc ++ [(hO, .inl (cJ, 1, .inr (.inl g)))]) (fun v u => (∃ (r9 : Int32) (u1 : va_W), post (some (.int r9)) u1 ∧ v = some (.int 0) ∧ u = u1 ++ [(hO, .inl (cJ, 1, .inr (.inl (vp_updL g 0 r9.toInt64))))]) ∨ (∃ u1 : va_W, px kIOB u1 ∧ v = some (.int 1) ∧ u = u1 ++ [(hO, .inl (cJ, 1, .inr (.inl g)))]) ∨ (∃ u1 : va_W, px kISE u1 ∧ v = some (.int 2) ∧ u = u1 ++ [(hO, .inl (cJ, 1, .inr (.inl g)))])) (fun _ _ => False) := by
  refine kMH.of hfl (cc := cL_quantity) (maxL := 4) (ret := some .int) (by decide) rfl (Nat.le_of_ble_eq_true rfl) ?_
  intro p e s m args below meth c A ls hC hr hmn hG hl
  have hx := hC.x
  have hb := hC.b
  have hl : lv_has ls 4 [(0, .ref hs), (1, .int a1), (2, .ref hO)] := hl
  refine lv_aload_n hx hb dL_quantity_0 rfl (lv_at hl 2 rfl) ?_
  refine lv_iconst (v := 0) hx hb dL_quantity_1 (by decide) ?_
  refine lv_aload_n hx hb dL_quantity_2 rfl (lv_at hl 0 rfl) ?_
  refine lv_iload_n hx hb dL_quantity_3 rfl (lv_at hl 1 rfl) ?_
  refine kh_callV (nn := 1) (C := RX3) hC hG q0 (k_appL he) (ci := 4) rfl (hM.frame _) gL_quantity_X3_quantity rfl rfl (by decide +kernel) ⟨(Nat.le_of_ble_eq_true rfl), (Nat.le_of_ble_eq_true rfl)⟩ hl.1 rfl (Nat.le_of_ble_eq_true rfl) dL_quantity_4 ⟨(Nat.le_of_ble_eq_true rfl), (Nat.le_of_ble_eq_true rfl)⟩ ?_ ?_
  · intro E9 ce9 q9 u9 H locs hp hG h91 h92 h93
    obtain ⟨u1, hp, rfl⟩ := hp
    rcases hpx _ _ hp with rfl | rfl
    · refine kh_catch (name := kIOB) hC [] ⟨0, 9, 12, 21⟩ [⟨0, 9, 15, 19⟩] rfl (fun y9 hy => by cases hy) (by decide) (by decide) (List.mem_of_getElem? (i := 1) rfl) (List.mem_of_getElem? (i := 2) rfl) h91 h92 h93 ?_
      refine lv_astore_n (lv' := [(3, .ref q9), (0, .ref hs), (1, .int a1), (2, .ref hO)]) hx hb dL_quantity_12 rfl hl (by decide) rfl (fun ls hl => ?_)
      refine lv_iconst (v := 1) hx hb dL_quantity_13 (by decide) ?_
      exact kh_reti hC hr hG (Or.inr (Or.inl ⟨u1, hp, rfl, rfl⟩)) (Nat.le_of_ble_eq_true rfl) (Nat.le_of_ble_eq_true rfl) dL_quantity_14
    · refine kh_catch (name := kISE) hC [⟨0, 9, 12, 21⟩] ⟨0, 9, 15, 19⟩ [] rfl (fun y9 hy => by
        rcases List.mem_cons.mp hy with rfl | hy
        · exact ⟨by decide, kIOB, (List.mem_of_getElem? (i := 1) rfl), List.mem_of_getElem? (i := 3) rfl⟩
        cases hy) (by decide) (by decide) (List.mem_of_getElem? (i := 2) rfl) (List.mem_of_getElem? (i := 1) rfl) h91 h92 h93 ?_
      refine lv_astore_n (lv' := [(3, .ref q9), (0, .ref hs), (1, .int a1), (2, .ref hO)]) hx hb dL_quantity_15 rfl hl (by decide) rfl (fun ls hl => ?_)
      refine lv_iconst (v := 2) hx hb dL_quantity_16 (by decide) ?_
      exact kh_reti hC hr hG (Or.inr (Or.inr (⟨u1, hp, rfl, rfl⟩))) (Nat.le_of_ble_eq_true rfl) (Nat.le_of_ble_eq_true rfl) dL_quantity_17
  · intro v9 u9 H locs hp hG
    obtain ⟨u1, hp, rfl⟩ := hp
    obtain ⟨r9, rfl⟩ := hv _ _ hp
    refine W.eq (g2 := F0 m 7 ls [.int r9, .int 0, .ref hO]) rfl ?_
    refine lv_i2l hx hb dL_quantity_7 rfl ?_
    refine va_last (f := g) (x := r9.toInt64) hx hb hC.K hG.1 hG.2.1 hG.2.2 u1.length 1 (k_last _ _) rfl (by unfold vp_in; decide) dL_quantity_8 (fun H locs h1 h2 h3 => ?_)
    have hG : kG D A s (u1 ++ [(hO, .inl (cJ, 1, .inr (.inl (vp_updL g 0 r9.toInt64))))]) H locs := by
      have h4 : kG D A s _ H locs := ⟨h1, h2, h3⟩
      rw [k_setlast] at h4
      exact h4
    refine lv_goto (tgt := 18) hx hb dL_quantity_9 (by decide) ?_
    refine lv_iconst (v := 0) hx hb dL_quantity_18 (by decide) ?_
    exact kh_reti hC hr hG (Or.inl ⟨r9, u1, hp, rfl, rfl⟩) (Nat.le_of_ble_eq_true rfl) (Nat.le_of_ble_eq_true rfl) dL_quantity_19

set_option maxHeartbeats 4000000 in
set_option maxRecDepth 100000 in
/-- the law's call of sum -/
theorem K_L_sum (l : Launch) (hfl : l.stackTraces = false) (D : va_G) (cI cJ cZ cO : ClassId) (z mi : Nat) (hs hO : Nat) (a1 : Int32) (wc : va_W) (q0 : Nat) (fs : List Value) (he : wc[q0]? = some (hs, .inr (4, fs))) (g : Nat → Int64) (post : Option Value → va_W → Prop) (px : String → va_W → Prop) (hM : kM l D (kTy cI cJ cZ cO) z mi yX3_sum wsX3_sum ({ frames := 7, cells := 1, slots := 6, locals := 141 } : Room) [.ref hs, .int a1] wc post px) (hv : ∀ v u, post v u → ∃ r : Int64, v = some (.long r)) (hpx : ∀ E u, px E u → E = kIOB) : kM l D (kTy cI cJ cZ cO) z mi yL_sum wsL_sum ({ frames := 8, cells := 1, slots := 6, locals := 167 } : Room) [.ref hs, .int a1, .ref hO] (wc ++ [(hO, .inl (cJ, 1, .inr (.inl g)))]) (fun v u => (∃ (r9 : Int64) (u1 : va_W), post (some (.long r9)) u1 ∧ v = some (.int 0) ∧ u = u1 ++ [(hO, .inl (cJ, 1, .inr (.inl (vp_updL g 0 r9))))]) ∨ (∃ u1 : va_W, px kIOB u1 ∧ v = some (.int 1) ∧ u = u1 ++ [(hO, .inl (cJ, 1, .inr (.inl g)))])) (fun _ _ => False) := by
  refine kMH.of hfl (cc := cL_sum) (maxL := 4) (ret := some .int) (by decide) rfl (Nat.le_of_ble_eq_true rfl) ?_
  intro p e s m args below meth c A ls hC hr hmn hG hl
  have hx := hC.x
  have hb := hC.b
  have hl : lv_has ls 4 [(0, .ref hs), (1, .int a1), (2, .ref hO)] := hl
  refine lv_aload_n hx hb dL_sum_0 rfl (lv_at hl 2 rfl) ?_
  refine lv_iconst (v := 0) hx hb dL_sum_1 (by decide) ?_
  refine lv_aload_n hx hb dL_sum_2 rfl (lv_at hl 0 rfl) ?_
  refine lv_iload_n hx hb dL_sum_3 rfl (lv_at hl 1 rfl) ?_
  refine kh_callV (nn := 1) (C := RX3) hC hG q0 (k_appL he) (ci := 4) rfl (hM.frame _) gL_sum_X3_sum rfl rfl (by decide +kernel) ⟨(Nat.le_of_ble_eq_true rfl), (Nat.le_of_ble_eq_true rfl)⟩ hl.1 rfl (Nat.le_of_ble_eq_true rfl) dL_sum_4 ⟨(Nat.le_of_ble_eq_true rfl), (Nat.le_of_ble_eq_true rfl)⟩ ?_ ?_
  · intro E9 ce9 q9 u9 H locs hp hG h91 h92 h93
    obtain ⟨u1, hp, rfl⟩ := hp
    rcases hpx _ _ hp with rfl
    · refine kh_catch (name := kIOB) hC [] ⟨0, 8, 11, 21⟩ [] rfl (fun y9 hy => by cases hy) (by decide) (by decide) (List.mem_of_getElem? (i := 1) rfl) (List.mem_of_getElem? (i := 2) rfl) h91 h92 h93 ?_
      refine lv_astore_n (lv' := [(3, .ref q9), (0, .ref hs), (1, .int a1), (2, .ref hO)]) hx hb dL_sum_11 rfl hl (by decide) rfl (fun ls hl => ?_)
      refine lv_iconst (v := 1) hx hb dL_sum_12 (by decide) ?_
      exact kh_reti hC hr hG (Or.inr (⟨u1, hp, rfl, rfl⟩)) (Nat.le_of_ble_eq_true rfl) (Nat.le_of_ble_eq_true rfl) dL_sum_13
  · intro v9 u9 H locs hp hG
    obtain ⟨u1, hp, rfl⟩ := hp
    obtain ⟨r9, rfl⟩ := hv _ _ hp
    refine W.eq (g2 := F0 m 7 ls [.long r9, .int 0, .ref hO]) rfl ?_
    refine va_last (f := g) (x := r9) hx hb hC.K hG.1 hG.2.1 hG.2.2 u1.length 1 (k_last _ _) rfl (by unfold vp_in; decide) dL_sum_7 (fun H locs h1 h2 h3 => ?_)
    have hG : kG D A s (u1 ++ [(hO, .inl (cJ, 1, .inr (.inl (vp_updL g 0 r9))))]) H locs := by
      have h4 : kG D A s _ H locs := ⟨h1, h2, h3⟩
      rw [k_setlast] at h4
      exact h4
    refine lv_goto (tgt := 14) hx hb dL_sum_8 (by decide) ?_
    refine lv_iconst (v := 0) hx hb dL_sum_14 (by decide) ?_
    exact kh_reti hC hr hG (Or.inl ⟨r9, u1, hp, rfl, rfl⟩) (Nat.le_of_ble_eq_true rfl) (Nat.le_of_ble_eq_true rfl) dL_sum_15

set_option maxHeartbeats 4000000 in
set_option maxRecDepth 100000 in
/-- the law's call of dearest -/
theorem K_L_dearest (l : Launch) (hfl : l.stackTraces = false) (D : va_G) (cI cJ cZ cO : ClassId) (z mi : Nat) (hs hO : Nat) (a1 : Int32) (wc : va_W) (q0 : Nat) (fs : List Value) (he : wc[q0]? = some (hs, .inr (4, fs))) (g : Nat → Int64) (post : Option Value → va_W → Prop) (px : String → va_W → Prop) (hM : kM l D (kTy cI cJ cZ cO) z mi yX3_dearest wsX3_dearest ({ frames := 7, cells := 1, slots := 6, locals := 141 } : Room) [.ref hs, .int a1] wc post px) (hv : ∀ v u, post v u → ∃ r : Int32, v = some (.int r)) (hpx : ∀ E u, px E u → E = kIOB) : kM l D (kTy cI cJ cZ cO) z mi yL_dearest wsL_dearest ({ frames := 8, cells := 1, slots := 6, locals := 168 } : Room) [.ref hs, .int a1, .ref hO] (wc ++ [(hO, .inl (cJ, 1, .inr (.inl g)))]) (fun v u => (∃ (r9 : Int32) (u1 : va_W), post (some (.int r9)) u1 ∧ v = some (.int 0) ∧ u = u1 ++ [(hO, .inl (cJ, 1, .inr (.inl (vp_updL g 0 r9.toInt64))))]) ∨ (∃ u1 : va_W, px kIOB u1 ∧ v = some (.int 1) ∧ u = u1 ++ [(hO, .inl (cJ, 1, .inr (.inl g)))])) (fun _ _ => False) := by
  refine kMH.of hfl (cc := cL_dearest) (maxL := 4) (ret := some .int) (by decide) rfl (Nat.le_of_ble_eq_true rfl) ?_
  intro p e s m args below meth c A ls hC hr hmn hG hl
  have hx := hC.x
  have hb := hC.b
  have hl : lv_has ls 4 [(0, .ref hs), (1, .int a1), (2, .ref hO)] := hl
  refine lv_aload_n hx hb dL_dearest_0 rfl (lv_at hl 2 rfl) ?_
  refine lv_iconst (v := 0) hx hb dL_dearest_1 (by decide) ?_
  refine lv_aload_n hx hb dL_dearest_2 rfl (lv_at hl 0 rfl) ?_
  refine lv_iload_n hx hb dL_dearest_3 rfl (lv_at hl 1 rfl) ?_
  refine kh_callV (nn := 1) (C := RX3) hC hG q0 (k_appL he) (ci := 4) rfl (hM.frame _) gL_dearest_X3_dearest rfl rfl (by decide +kernel) ⟨(Nat.le_of_ble_eq_true rfl), (Nat.le_of_ble_eq_true rfl)⟩ hl.1 rfl (Nat.le_of_ble_eq_true rfl) dL_dearest_4 ⟨(Nat.le_of_ble_eq_true rfl), (Nat.le_of_ble_eq_true rfl)⟩ ?_ ?_
  · intro E9 ce9 q9 u9 H locs hp hG h91 h92 h93
    obtain ⟨u1, hp, rfl⟩ := hp
    rcases hpx _ _ hp with rfl
    · refine kh_catch (name := kIOB) hC [] ⟨0, 9, 12, 21⟩ [] rfl (fun y9 hy => by cases hy) (by decide) (by decide) (List.mem_of_getElem? (i := 1) rfl) (List.mem_of_getElem? (i := 2) rfl) h91 h92 h93 ?_
      refine lv_astore_n (lv' := [(3, .ref q9), (0, .ref hs), (1, .int a1), (2, .ref hO)]) hx hb dL_dearest_12 rfl hl (by decide) rfl (fun ls hl => ?_)
      refine lv_iconst (v := 1) hx hb dL_dearest_13 (by decide) ?_
      exact kh_reti hC hr hG (Or.inr (⟨u1, hp, rfl, rfl⟩)) (Nat.le_of_ble_eq_true rfl) (Nat.le_of_ble_eq_true rfl) dL_dearest_14
  · intro v9 u9 H locs hp hG
    obtain ⟨u1, hp, rfl⟩ := hp
    obtain ⟨r9, rfl⟩ := hv _ _ hp
    refine W.eq (g2 := F0 m 7 ls [.int r9, .int 0, .ref hO]) rfl ?_
    refine lv_i2l hx hb dL_dearest_7 rfl ?_
    refine va_last (f := g) (x := r9.toInt64) hx hb hC.K hG.1 hG.2.1 hG.2.2 u1.length 1 (k_last _ _) rfl (by unfold vp_in; decide) dL_dearest_8 (fun H locs h1 h2 h3 => ?_)
    have hG : kG D A s (u1 ++ [(hO, .inl (cJ, 1, .inr (.inl (vp_updL g 0 r9.toInt64))))]) H locs := by
      have h4 : kG D A s _ H locs := ⟨h1, h2, h3⟩
      rw [k_setlast] at h4
      exact h4
    refine lv_goto (tgt := 15) hx hb dL_dearest_9 (by decide) ?_
    refine lv_iconst (v := 0) hx hb dL_dearest_15 (by decide) ?_
    exact kh_reti hC hr hG (Or.inl ⟨r9, u1, hp, rfl, rfl⟩) (Nat.le_of_ble_eq_true rfl) (Nat.le_of_ble_eq_true rfl) dL_dearest_16

set_option maxHeartbeats 4000000 in
set_option maxRecDepth 100000 in
/-- the law's call of done -/
theorem K_L_done (l : Launch) (hfl : l.stackTraces = false) (D : va_G) (cI cJ cZ cO : ClassId) (z mi : Nat) (hs hO : Nat) (a1 a2 : Int32) (wc : va_W) (q0 : Nat) (fs : List Value) (he : wc[q0]? = some (hs, .inr (4, fs))) (g : Nat → Int64) (post : Option Value → va_W → Prop) (px : String → va_W → Prop) (hM : kM l D (kTy cI cJ cZ cO) z mi yX3_done wsX3_done ({ frames := 7, cells := 3, slots := 18, locals := 141 } : Room) [.ref hs, .int a1, .int a2] wc post px) (hv : ∀ v u, post v u → ∃ r : Int32, v = some (.int r)) (hpx : ∀ E u, px E u → E = kIOB ∨ E = kIAE ∨ E = kISE) : kM l D (kTy cI cJ cZ cO) z mi yL_done wsL_done ({ frames := 8, cells := 3, slots := 18, locals := 165 } : Room) [.ref hs, .int a1, .int a2, .ref hO] (wc ++ [(hO, .inl (cJ, 1, .inr (.inl g)))]) (fun v u => (∃ (r9 : Int32) (u1 : va_W), post (some (.int r9)) u1 ∧ v = some (.int 0) ∧ u = u1 ++ [(hO, .inl (cJ, 1, .inr (.inl (vp_updL g 0 r9.toInt64))))]) ∨ (∃ u1 : va_W, px kIOB u1 ∧ v = some (.int 1) ∧ u = u1 ++ [(hO, .inl (cJ, 1, .inr (.inl g)))]) ∨ (∃ u1 : va_W, px kIAE u1 ∧ v = some (.int 2) ∧ u = u1 ++ [(hO, .inl (cJ, 1, .inr (.inl g)))]) ∨ (∃ u1 : va_W, px kISE u1 ∧ v = some (.int 3) ∧ u = u1 ++ [(hO, .inl (cJ, 1, .inr (.inl g)))])) (fun _ _ => False) := by
  refine kMH.of hfl (cc := cL_done) (maxL := 5) (ret := some .int) (by decide) rfl (Nat.le_of_ble_eq_true rfl) ?_
  intro p e s m args below meth c A ls hC hr hmn hG hl
  have hx := hC.x
  have hb := hC.b
  have hl : lv_has ls 5 [(0, .ref hs), (1, .int a1), (2, .int a2), (3, .ref hO)] := hl
  refine lv_aload_n hx hb dL_done_0 rfl (lv_at hl 3 rfl) ?_
  refine lv_iconst (v := 0) hx hb dL_done_1 (by decide) ?_
  refine lv_aload_n hx hb dL_done_2 rfl (lv_at hl 0 rfl) ?_
  refine lv_iload_n hx hb dL_done_3 rfl (lv_at hl 1 rfl) ?_
  refine lv_iload_n hx hb dL_done_4 rfl (lv_at hl 2 rfl) ?_
  refine kh_callV (nn := 2) (C := RX3) hC hG q0 (k_appL he) (ci := 4) rfl (hM.frame _) gL_done_X3_done rfl rfl (by decide +kernel) ⟨(Nat.le_of_ble_eq_true rfl), (Nat.le_of_ble_eq_true rfl)⟩ hl.1 rfl (Nat.le_of_ble_eq_true rfl) dL_done_5 ⟨(Nat.le_of_ble_eq_true rfl), (Nat.le_of_ble_eq_true rfl)⟩ ?_ ?_
  · intro E9 ce9 q9 u9 H locs hp hG h91 h92 h93
    obtain ⟨u1, hp, rfl⟩ := hp
    rcases hpx _ _ hp with rfl | rfl | rfl
    · refine kh_catch (name := kIOB) hC [] ⟨0, 10, 13, 21⟩ [⟨0, 10, 17, 13⟩, ⟨0, 10, 21, 19⟩] rfl (fun y9 hy => by cases hy) (by decide) (by decide) (List.mem_of_getElem? (i := 1) rfl) (List.mem_of_getElem? (i := 2) rfl) h91 h92 h93 ?_
      refine lv_astore (lv' := [(4, .ref q9), (0, .ref hs), (1, .int a1), (2, .int a2), (3, .ref hO)]) hx hb dL_done_13 hl (by decide) rfl (fun ls hl => ?_)
      refine lv_iconst (v := 1) hx hb dL_done_15 (by decide) ?_
      exact kh_reti hC hr hG (Or.inr (Or.inl ⟨u1, hp, rfl, rfl⟩)) (Nat.le_of_ble_eq_true rfl) (Nat.le_of_ble_eq_true rfl) dL_done_16
    · refine kh_catch (name := kIAE) hC [⟨0, 10, 13, 21⟩] ⟨0, 10, 17, 13⟩ [⟨0, 10, 21, 19⟩] rfl (fun y9 hy => by
        rcases List.mem_cons.mp hy with rfl | hy
        · exact ⟨by decide, kIOB, (List.mem_of_getElem? (i := 1) rfl), List.mem_of_getElem? (i := 1) rfl⟩
        cases hy) (by decide) (by decide) (List.mem_of_getElem? (i := 2) rfl) (List.mem_of_getElem? (i := 0) rfl) h91 h92 h93 ?_
      refine lv_astore (lv' := [(4, .ref q9), (0, .ref hs), (1, .int a1), (2, .int a2), (3, .ref hO)]) hx hb dL_done_17 hl (by decide) rfl (fun ls hl => ?_)
      refine lv_iconst (v := 2) hx hb dL_done_19 (by decide) ?_
      exact kh_reti hC hr hG (Or.inr (Or.inr (Or.inl ⟨u1, hp, rfl, rfl⟩))) (Nat.le_of_ble_eq_true rfl) (Nat.le_of_ble_eq_true rfl) dL_done_20
    · refine kh_catch (name := kISE) hC [⟨0, 10, 13, 21⟩, ⟨0, 10, 17, 13⟩] ⟨0, 10, 21, 19⟩ [] rfl (fun y9 hy => by
        rcases List.mem_cons.mp hy with rfl | hy
        · exact ⟨by decide, kIOB, (List.mem_of_getElem? (i := 1) rfl), List.mem_of_getElem? (i := 3) rfl⟩
        rcases List.mem_cons.mp hy with rfl | hy
        · exact ⟨by decide, kIAE, (List.mem_of_getElem? (i := 2) rfl), List.mem_of_getElem? (i := 2) rfl⟩
        cases hy) (by decide) (by decide) (List.mem_of_getElem? (i := 3) rfl) (List.mem_of_getElem? (i := 1) rfl) h91 h92 h93 ?_
      refine lv_astore (lv' := [(4, .ref q9), (0, .ref hs), (1, .int a1), (2, .int a2), (3, .ref hO)]) hx hb dL_done_21 hl (by decide) rfl (fun ls hl => ?_)
      refine lv_iconst (v := 3) hx hb dL_done_23 (by decide) ?_
      exact kh_reti hC hr hG (Or.inr (Or.inr (Or.inr (⟨u1, hp, rfl, rfl⟩)))) (Nat.le_of_ble_eq_true rfl) (Nat.le_of_ble_eq_true rfl) dL_done_24
  · intro v9 u9 H locs hp hG
    obtain ⟨u1, hp, rfl⟩ := hp
    obtain ⟨r9, rfl⟩ := hv _ _ hp
    refine W.eq (g2 := F0 m 8 ls [.int r9, .int 0, .ref hO]) rfl ?_
    refine lv_i2l hx hb dL_done_8 rfl ?_
    refine va_last (f := g) (x := r9.toInt64) hx hb hC.K hG.1 hG.2.1 hG.2.2 u1.length 1 (k_last _ _) rfl (by unfold vp_in; decide) dL_done_9 (fun H locs h1 h2 h3 => ?_)
    have hG : kG D A s (u1 ++ [(hO, .inl (cJ, 1, .inr (.inl (vp_updL g 0 r9.toInt64))))]) H locs := by
      have h4 : kG D A s _ H locs := ⟨h1, h2, h3⟩
      rw [k_setlast] at h4
      exact h4
    refine lv_goto (tgt := 25) hx hb dL_done_10 (by decide) ?_
    refine lv_iconst (v := 0) hx hb dL_done_25 (by decide) ?_
    exact kh_reti hC hr hG (Or.inl ⟨r9, u1, hp, rfl, rfl⟩) (Nat.le_of_ble_eq_true rfl) (Nat.le_of_ble_eq_true rfl) dL_done_26

set_option maxHeartbeats 4000000 in
set_option maxRecDepth 100000 in
/-- the law's call of retention -/
theorem K_L_retention (l : Launch) (hfl : l.stackTraces = false) (D : va_G) (cI cJ cZ cO : ClassId) (z mi : Nat) (hs hO : Nat) (a1 : Int32) (wc : va_W) (q0 : Nat) (fs : List Value) (he : wc[q0]? = some (hs, .inr (4, fs))) (g : Nat → Int64) (post : Option Value → va_W → Prop) (px : String → va_W → Prop) (hM : kM l D (kTy cI cJ cZ cO) z mi yX3_retention wsX3_retention ({ frames := 7, cells := 1, slots := 6, locals := 112 } : Room) [.ref hs, .int a1] wc post px) (hv : ∀ v u, post v u → ∃ r : Int32, v = some (.int r)) (hpx : ∀ E u, px E u → E = kIAE) : kM l D (kTy cI cJ cZ cO) z mi yL_retention wsL_retention ({ frames := 8, cells := 1, slots := 6, locals := 134 } : Room) [.ref hs, .int a1, .ref hO] (wc ++ [(hO, .inl (cJ, 1, .inr (.inl g)))]) (fun v u => (∃ (r9 : Int32) (u1 : va_W), post (some (.int r9)) u1 ∧ v = some (.int 0) ∧ u = u1 ++ [(hO, .inl (cJ, 1, .inr (.inl (vp_updL g 0 r9.toInt64))))]) ∨ (∃ u1 : va_W, px kIAE u1 ∧ v = some (.int 1) ∧ u = u1 ++ [(hO, .inl (cJ, 1, .inr (.inl g)))])) (fun _ _ => False) := by
  refine kMH.of hfl (cc := cL_retention) (maxL := 4) (ret := some .int) (by decide) rfl (Nat.le_of_ble_eq_true rfl) ?_
  intro p e s m args below meth c A ls hC hr hmn hG hl
  have hx := hC.x
  have hb := hC.b
  have hl : lv_has ls 4 [(0, .ref hs), (1, .int a1), (2, .ref hO)] := hl
  refine lv_aload_n hx hb dL_retention_0 rfl (lv_at hl 2 rfl) ?_
  refine lv_iconst (v := 0) hx hb dL_retention_1 (by decide) ?_
  refine lv_aload_n hx hb dL_retention_2 rfl (lv_at hl 0 rfl) ?_
  refine lv_iload_n hx hb dL_retention_3 rfl (lv_at hl 1 rfl) ?_
  refine kh_callV (nn := 1) (C := RX3) hC hG q0 (k_appL he) (ci := 4) rfl (hM.frame _) gL_retention_X3_retention rfl rfl (by decide +kernel) ⟨(Nat.le_of_ble_eq_true rfl), (Nat.le_of_ble_eq_true rfl)⟩ hl.1 rfl (Nat.le_of_ble_eq_true rfl) dL_retention_4 ⟨(Nat.le_of_ble_eq_true rfl), (Nat.le_of_ble_eq_true rfl)⟩ ?_ ?_
  · intro E9 ce9 q9 u9 H locs hp hG h91 h92 h93
    obtain ⟨u1, hp, rfl⟩ := hp
    rcases hpx _ _ hp with rfl
    · refine kh_catch (name := kIAE) hC [] ⟨0, 9, 12, 13⟩ [] rfl (fun y9 hy => by cases hy) (by decide) (by decide) (List.mem_of_getElem? (i := 1) rfl) (List.mem_of_getElem? (i := 0) rfl) h91 h92 h93 ?_
      refine lv_astore_n (lv' := [(3, .ref q9), (0, .ref hs), (1, .int a1), (2, .ref hO)]) hx hb dL_retention_12 rfl hl (by decide) rfl (fun ls hl => ?_)
      refine lv_iconst (v := 1) hx hb dL_retention_13 (by decide) ?_
      exact kh_reti hC hr hG (Or.inr (⟨u1, hp, rfl, rfl⟩)) (Nat.le_of_ble_eq_true rfl) (Nat.le_of_ble_eq_true rfl) dL_retention_14
  · intro v9 u9 H locs hp hG
    obtain ⟨u1, hp, rfl⟩ := hp
    obtain ⟨r9, rfl⟩ := hv _ _ hp
    refine W.eq (g2 := F0 m 7 ls [.int r9, .int 0, .ref hO]) rfl ?_
    refine lv_i2l hx hb dL_retention_7 rfl ?_
    refine va_last (f := g) (x := r9.toInt64) hx hb hC.K hG.1 hG.2.1 hG.2.2 u1.length 1 (k_last _ _) rfl (by unfold vp_in; decide) dL_retention_8 (fun H locs h1 h2 h3 => ?_)
    have hG : kG D A s (u1 ++ [(hO, .inl (cJ, 1, .inr (.inl (vp_updL g 0 r9.toInt64))))]) H locs := by
      have h4 : kG D A s _ H locs := ⟨h1, h2, h3⟩
      rw [k_setlast] at h4
      exact h4
    refine lv_goto (tgt := 15) hx hb dL_retention_9 (by decide) ?_
    refine lv_iconst (v := 0) hx hb dL_retention_15 (by decide) ?_
    exact kh_reti hC hr hG (Or.inl ⟨r9, u1, hp, rfl, rfl⟩) (Nat.le_of_ble_eq_true rfl) (Nat.le_of_ble_eq_true rfl) dL_retention_16

set_option maxHeartbeats 4000000 in
set_option maxRecDepth 100000 in
/-- the law's call of claim -/
theorem K_L_claim (l : Launch) (hfl : l.stackTraces = false) (D : va_G) (cI cJ cZ cO : ClassId) (z mi : Nat) (hs hO : Nat) (wc : va_W) (q0 : Nat) (fs : List Value) (he : wc[q0]? = some (hs, .inr (4, fs))) (g : Nat → Int64) (post : Option Value → va_W → Prop) (px : String → va_W → Prop) (hM : kM l D (kTy cI cJ cZ cO) z mi yX3_claim wsX3_claim ({ frames := 6, cells := 1, slots := 6, locals := 110 } : Room) [.ref hs] wc post px) (hv : ∀ v u, post v u → ∃ r : Int64, v = some (.long r)) (hpx : ∀ E u, px E u → E = kISE) : kM l D (kTy cI cJ cZ cO) z mi yL_claim wsL_claim ({ frames := 7, cells := 1, slots := 6, locals := 132 } : Room) [.ref hs, .ref hO] (wc ++ [(hO, .inl (cJ, 1, .inr (.inl g)))]) (fun v u => (∃ (r9 : Int64) (u1 : va_W), post (some (.long r9)) u1 ∧ v = some (.int 0) ∧ u = u1 ++ [(hO, .inl (cJ, 1, .inr (.inl (vp_updL g 0 r9))))]) ∨ (∃ u1 : va_W, px kISE u1 ∧ v = some (.int 1) ∧ u = u1 ++ [(hO, .inl (cJ, 1, .inr (.inl g)))])) (fun _ _ => False) := by
  refine kMH.of hfl (cc := cL_claim) (maxL := 3) (ret := some .int) (by decide) rfl (Nat.le_of_ble_eq_true rfl) ?_
  intro p e s m args below meth c A ls hC hr hmn hG hl
  have hx := hC.x
  have hb := hC.b
  have hl : lv_has ls 3 [(0, .ref hs), (1, .ref hO)] := hl
  refine lv_aload_n hx hb dL_claim_0 rfl (lv_at hl 1 rfl) ?_
  refine lv_iconst (v := 0) hx hb dL_claim_1 (by decide) ?_
  refine lv_aload_n hx hb dL_claim_2 rfl (lv_at hl 0 rfl) ?_
  refine kh_callV (nn := 0) (C := RX3) hC hG q0 (k_appL he) (ci := 4) rfl (hM.frame _) gL_claim_X3_claim rfl rfl (by decide +kernel) ⟨(Nat.le_of_ble_eq_true rfl), (Nat.le_of_ble_eq_true rfl)⟩ hl.1 rfl (Nat.le_of_ble_eq_true rfl) dL_claim_3 ⟨(Nat.le_of_ble_eq_true rfl), (Nat.le_of_ble_eq_true rfl)⟩ ?_ ?_
  · intro E9 ce9 q9 u9 H locs hp hG h91 h92 h93
    obtain ⟨u1, hp, rfl⟩ := hp
    rcases hpx _ _ hp with rfl
    · refine kh_catch (name := kISE) hC [] ⟨0, 7, 10, 19⟩ [] rfl (fun y9 hy => by cases hy) (by decide) (by decide) (List.mem_of_getElem? (i := 1) rfl) (List.mem_of_getElem? (i := 1) rfl) h91 h92 h93 ?_
      refine lv_astore_n (lv' := [(2, .ref q9), (0, .ref hs), (1, .ref hO)]) hx hb dL_claim_10 rfl hl (by decide) rfl (fun ls hl => ?_)
      refine lv_iconst (v := 1) hx hb dL_claim_11 (by decide) ?_
      exact kh_reti hC hr hG (Or.inr (⟨u1, hp, rfl, rfl⟩)) (Nat.le_of_ble_eq_true rfl) (Nat.le_of_ble_eq_true rfl) dL_claim_12
  · intro v9 u9 H locs hp hG
    obtain ⟨u1, hp, rfl⟩ := hp
    obtain ⟨r9, rfl⟩ := hv _ _ hp
    refine W.eq (g2 := F0 m 6 ls [.long r9, .int 0, .ref hO]) rfl ?_
    refine va_last (f := g) (x := r9) hx hb hC.K hG.1 hG.2.1 hG.2.2 u1.length 1 (k_last _ _) rfl (by unfold vp_in; decide) dL_claim_6 (fun H locs h1 h2 h3 => ?_)
    have hG : kG D A s (u1 ++ [(hO, .inl (cJ, 1, .inr (.inl (vp_updL g 0 r9))))]) H locs := by
      have h4 : kG D A s _ H locs := ⟨h1, h2, h3⟩
      rw [k_setlast] at h4
      exact h4
    refine lv_goto (tgt := 13) hx hb dL_claim_7 (by decide) ?_
    refine lv_iconst (v := 0) hx hb dL_claim_13 (by decide) ?_
    exact kh_reti hC hr hG (Or.inl ⟨r9, u1, hp, rfl, rfl⟩) (Nat.le_of_ble_eq_true rfl) (Nat.le_of_ble_eq_true rfl) dL_claim_14

