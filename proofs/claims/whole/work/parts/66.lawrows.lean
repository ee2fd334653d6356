/-! ===== the law's own rows ===== -/
section KH3
variable {p : Program} {l : Launch} {e : Env} {R : Room} {s : State} {m : MethodId} {args : Array Value} {below : List Frame} {meth : Method} {c : Code} {H : Heap} {locs : List Loc} {cells slots : Nat} {Q : State → Prop}
variable {cc : ByteArray} {own : String} {wsm : List Cond} {nL : Nat} {hh : List (Nat × Nat × Nat × Nat)} {D : va_G} {ty : List (ClassId × FieldType)} {z mi : Nat} {A : Nat → Prop} {ws : va_W} {pc : Nat} {ls : Array Slot} {rest st0 : List Value}
variable {y : MethodName} {bytes : ByteArray} {maxL n index b ci q0 : Nat} {ret : Option FieldType} {wsc wsc' : List Cond} {rm : Room} {As : List Value} {pst : Option Value → va_W → Prop} {px : String → va_W → Prop} {C : String} {T0 : u_T} {N0 : Nat} {fs : List Value} {wss : va_W}
theorem kh_callI (hC : kH p l s m args meth c cc own wsm nL hh D ty z mi A) (hG : kG D A s ws H locs) (hM : kM l D ty z mi y wsc rm (.ref b :: As) ws pst px) (hg : GoodIn wsm wsc) (hl : Cond.methodLink own index y ∈ wsm) (hin : Cond.instanceMethod y ∈ wsm) (hini : Cond.initialized y.cls ∈ wsm) (hw : wsc = Cond.code y bytes maxL none :: wsc') {nn : Nat} (hnn : As.length = nn) (hd : y.name = "<init>" ∧ k_dsc y nn) (hR : k_fit rm R maxL) (hls : ls.size = nL) (hst : st0 = As.reverse ++ .ref b :: rest) (hcat : (rest.map fun v => v.category).sum ≤ 8) (hdg : decode cc pc = .ok (.invokespecial index, 3)) (hf : cells + rm.cells ≤ R.cells ∧ slots + rm.slots ≤ R.slots)
    (kx : ∀ (E : String) (ce : Cell) (q9 : Addr) (u : va_W) (H1 : Heap) (locs1 : List Loc), px E u → kG D A s u H1 locs1 → H1[q9]? = some ce → ce.vm = .none → s.vm.findClass E = some ce.cls → vx_W p l e R s m args below meth c H1 locs1 (cells + rm.cells) (slots + rm.slots) Q (F0 m pc ls rest) q9)
    (kk : ∀ (v : Option Value) (u : va_W) (H1 : Heap) (locs1 : List Loc), pst v u → kG D A s u H1 locs1 → W p l e R s m args below meth c H1 locs1 (cells + rm.cells) (slots + rm.slots) Q (F0 m (pc + 3) ls (v.toList ++ rest))) : W p l e R s m args below meth c H locs cells slots Q (F0 m pc ls st0) :=
  kh_run hC hG (vx_runI (g := F0 m pc ls st0) ⟨hC.x, hC.b, hC.nl, hC.o, hC.t⟩ (hM H.size) (cwI nn hC.t hg hw rfl rfl (hC.t _ hini) (hC.t _ hl) (hC.t _ hin) hd.1 hd.2 hR) ⟨kP.blind, kh_pre hC hG⟩ rfl hnn hls hst (lv_room (m := m) (pc := pc) (ls := ls) (rest := st0) hcat) hdg hf) kx kk
theorem kh_callSX (hC : kH p l s m args meth c cc own wsm nL hh D ty z mi A) (hG : kG D A s ws H locs) (hM : kM l D ty z mi y wsc rm As ws pst px) (hg : GoodIn wsm (va_wsS own index y wsc)) {h2 : List (Nat × Nat × Nat × Nat)} (hw : wsc = Cond.codeWith y bytes maxL ret h2 :: wsc') {nn : Nat} (hnn : As.length = nn) (hd : k_dsc y nn) (hR : k_fit rm R maxL) (hls : ls.size = nL) (hst : st0 = As.reverse ++ rest) (hcat : (rest.map fun v => v.category).sum ≤ 8) (hdg : decode cc pc = .ok (.invokestatic index, 3)) (hf : cells + rm.cells ≤ R.cells ∧ slots + rm.slots ≤ R.slots)
    (kx : ∀ (E : String) (ce : Cell) (q9 : Addr) (u : va_W) (H1 : Heap) (locs1 : List Loc), px E u → kG D A s u H1 locs1 → H1[q9]? = some ce → ce.vm = .none → s.vm.findClass E = some ce.cls → vx_W p l e R s m args below meth c H1 locs1 (cells + rm.cells) (slots + rm.slots) Q (F0 m pc ls rest) q9)
    (kk : ∀ (v : Option Value) (u : va_W) (H1 : Heap) (locs1 : List Loc), pst v u → kG D A s u H1 locs1 → W p l e R s m args below meth c H1 locs1 (cells + rm.cells) (slots + rm.slots) Q (F0 m (pc + 3) ls (v.toList ++ rest))) : W p l e R s m args below meth c H locs cells slots Q (F0 m pc ls st0) :=
  kh_run hC hG (vx_runSX (hh := h2) (g := F0 m pc ls st0) ⟨hC.x, hC.b, hC.nl, hC.o, hC.t⟩ (hM H.size) (vx_cwSW nn hC.t hg hw rfl rfl hd hR) ⟨kP.blind, kh_pre hC hG⟩ rfl hnn hls hst (lv_room (m := m) (pc := pc) (ls := ls) (rest := st0) hcat) hdg hf) kx kk

variable {cI cJ cZ cO : ClassId}
theorem kh_cls {cB : ClassId} (hK : va_K D vwCl (kTy cI cJ cZ cO) s) {t9 : FieldType} {cA : ClassId} (h : va_K D vwCl (kTy cI cJ cZ cO ++ [(cA, t9)]) s) (i : Nat) (hi : (kTy cI cJ cZ cO)[i]? = some (cB, t9)) (hty : (∃ C, t9 = .object C) ∨ ∀ U cX, va_RA U cX t9 = (U.vm.findClass ("[" ++ t9.toString) = some cX)) : cA = cB := k_cls hK h i hi hty
theorem kh_newJ (hC : kH p l s m args meth c cc own wsm nL hh D (kTy cI cJ cZ cO) z mi A) (hG : kG D A s ws H locs) (N : Nat) {n : Int32} (harr : Cond.arrayClass .long ∈ wsm) (hn : ¬ n < 0) (hN : n.toNatClampNeg = N) (hbytes : N * componentBytes .long ≤ 536870912) (hcells : cells + 1 ≤ R.cells) (hslots : slots + N ≤ R.slots) (hdg : decode cc pc = .ok (.newarray .long, 2))
    (kk : ∀ (q : Nat) (H1 : Heap), kG D A s (ws ++ [(q, .inl (cJ, N, .inr (.inl (fun _ => 0))))]) H1 locs → W p l e R s m args below meth c H1 locs (cells + 1) (slots + N) Q (F0 m (pc + 2) ls (.ref q :: rest))) : W p l e R s m args below meth c H locs cells slots Q (F0 m pc ls (.int n :: rest)) := by
  refine va_newa (atype := .long) (ty := .long) (a0 := (N, .inr (.inl (fun _ => 0)))) hC.x hC.b (hC.t _ harr) rfl hC.K hG.1 hG.2.1 hG.2.2 hC.up (fun cA => rfl) hn hN hbytes hcells hslots hdg (fun q cA H1 h1 h2 h3 h4 => ?_)
  have e := k_cls hC.K h1 (cB := cJ) 1 rfl (Or.inr fun _ _ => rfl)
  subst e
  exact kk q H1 ⟨h2, h3, h4⟩
/-- a new object with its fields as they come -/
theorem kh_new {C : String} {T : u_T} {N ci index : Nat} {fs : List Value} {ty0 : Nat → FieldType} (hC : kH p l s m args meth c cc own wsm nL hh D (kTy cI cJ cZ cO) z mi A) (hG : kG D A s ws H locs) (hin : ∀ w ∈ u_ws C T N, w ∈ wsm) (hty : ∀ k, k < N → parseFieldDescriptor (T k).2.2.1 = some (ty0 k)) (hcl : Cond.classLink own index C ∈ wsm) (hinst : Cond.instantiable C N ∈ wsm) (hini : Cond.initialized C ∈ wsm) (hc : vwCl[ci]? = some (C, T, N)) (hfs : ∀ j, j < N → defaultValue (ty0 j) = vp_V fs j) (hcells : cells + 1 ≤ R.cells) (hslots : slots + N ≤ R.slots) (hdg : decode cc pc = .ok (.new index, 3))
    (kk : ∀ (q : Nat) (H1 : Heap), kG D A s (ws ++ [(q, .inr (ci, fs))]) H1 locs → W p l e R s m args below meth c H1 locs (cells + 1) (slots + N) Q (F0 m (pc + 3) ls (.ref q :: rest))) : W p l e R s m args below meth c H locs cells slots Q (F0 m pc ls rest) :=
  va_new hC.x hC.b hC.t hin ty0 hty hC.o (hC.t _ hcl) (hC.t _ hinst) (hC.t _ hini) hC.K hG.1 hG.2.1 hG.2.2 hC.up hc hfs hcells hslots hdg (fun q H1 h1 h2 h3 => kk q H1 ⟨h1, h2, h3⟩)
end KH3

theorem kRoomC {a c : Nat} (h : a + 20 ≤ 600000) (hc : c ≤ 20) : a + c ≤ room_1.cells := Nat.le_trans (m := 600000) (by omega) (Nat.le_of_ble_eq_true rfl)
theorem kRoomS {a c : Nat} (h : a + 200 ≤ 7000000) (hc : c ≤ 200) : a + c ≤ room_1.slots := Nat.le_trans (m := 7000000) (by omega) (Nat.le_of_ble_eq_true rfl)
/-! ===== the sheet's cells, where the first six change, or an item ===== -/
theorem kSh_tr {cI cO : ClassId} {z : Nat} {ws : va_W} {hs : Nat} {hd : Nat} {lr : Nat} {li : Nat} {hpr : Nat} {lim : Int32} {ret : Int32} {clm : Int64} {fP : Nat → Int32} {ni : Nat} {ia : Nat → Nat} {pi : Nat → Nat} {par : Nat → Option Nat} {rt : Nat → Option Nat} {ra : Nat → Nat} {wa : Nat → Int32} {me : Nat → Int32} {va : Nat → Int32} {dn : Nat → Int32} {nr : Nat} {pr : Nat → Nat} {fA : Nat → Int32} {kli : Nat} {kei : Nat} {edi : Nat} {leni : Nat} {mci : Int32} {gi : Nat → Option Nat} {klr : Nat} {ker : Nat} {edr : Nat} {lenr : Nat} {mcr : Int32} {gr : Nat → Option Nat} {u : va_W} {lim' ret' : Int32} {clm' : Int64} {fP' : Nat → Int32} (h : kSh cI cO z ws 4 hs hd lr li hpr 5 lim ret clm fP ni ia pi par rt ra wa me va dn nr pr fA kli kei edi leni mci gi klr ker edr lenr mcr gr) (h4 : u[4]? = some (hs, .inr (4, [.ref hd, .ref lr, .ref li, .ref hpr, .int lim', .int ret', .long clm']))) (h5 : u[5]? = some (hpr, .inl (cI, 3, .inl fP'))) (ht : ∀ i, 6 ≤ i → u[i]? = ws[i]?) (hlen : ws.length ≤ u.length) :
    kSh cI cO z u 4 hs hd lr li hpr 5 lim' ret' clm' fP' ni ia pi par rt ra wa me va dn nr pr fA kli kei edi leni mci gi klr ker edr lenr mcr gr := by
  obtain ⟨-, -, a3, ⟨a4, a5, a6⟩, ⟨a7, a8⟩, a9, a10, a11, a12, a13, a14, a15⟩ := h
  obtain ⟨b1, b2, b3, b4, b5⟩ := a13
  refine ⟨h4, h5, a3, ⟨fun j hj => by rw [ht _ (a14 j hj)]; exact a4 j hj, a5, a6⟩, ⟨fun j hj => by rw [ht _ (a15 j hj)]; exact a7 j hj, a8⟩, a9, ?_, ?_, a12, ⟨b1, b2, b3, b4, by omega⟩, a14, a15⟩
  · unfold kLP
    rw [ht _ b1, ht _ b2]; exact a10
  · unfold kLP
    rw [ht _ b3, ht _ b4]; exact a11
theorem kSh_set {cI cO : ClassId} {z : Nat} {ws : va_W} {hs : Nat} {hd : Nat} {lr : Nat} {li : Nat} {hpr : Nat} {lim : Int32} {ret : Int32} {clm : Int64} {fP : Nat → Int32} {ni : Nat} {ia : Nat → Nat} {pi : Nat → Nat} {par : Nat → Option Nat} {rt : Nat → Option Nat} {ra : Nat → Nat} {wa : Nat → Int32} {me : Nat → Int32} {va : Nat → Int32} {dn : Nat → Int32} {nr : Nat} {pr : Nat → Nat} {fA : Nat → Int32} {kli : Nat} {kei : Nat} {edi : Nat} {leni : Nat} {mci : Int32} {gi : Nat → Option Nat} {klr : Nat} {ker : Nat} {edr : Nat} {lenr : Nat} {mcr : Int32} {gr : Nat → Option Nat} (h : kSh cI cO z ws 4 hs hd lr li hpr 5 lim ret clm fP ni ia pi par rt ra wa me va dn nr pr fA kli kei edi leni mci gi klr ker edr lenr mcr gr) {j : Nat} (hj : j < ni) (m9 v9 d9 : Int32) :
    kSh cI cO z (ws.set (pi j) (ia j, .inr (2, [va_rf ((par j).map ia), va_rf ((rt j).map ra), .int (wa j), .int m9, .int v9, .int d9]))) 4 hs hd lr li hpr 5 lim ret clm fP ni ia pi par rt ra wa (va_up me j m9) (va_up va j v9) (va_up dn j d9) nr pr fA kli kei edi leni mci gi klr ker edr lenr mcr gr := by
  obtain ⟨a1, a2, a3, ⟨a4, a5, a6⟩, ⟨a7, a8⟩, a9, a10, a11, a12, ⟨b1, b2, b3, b4, b5⟩, a14, a15⟩ := h
  have hcj := a4 j hj
  have hpj := a14 j hj
  obtain ⟨n1, n2⟩ := kLP_ne a10 hcj (by decide)
  obtain ⟨n3, n4⟩ := kLP_ne a11 hcj (by decide)
  have hne : ∀ i, i < ni → i ≠ j → pi j ≠ pi i := fun i hi hij e => by
    have h9 := a4 i hi
    rw [← e, hcj] at h9
    exact hij (a6 i j hi hj (Prod.mk.inj (Option.some.inj h9)).1.symm)
  refine ⟨k_seto a1 (by omega), k_seto a2 (by omega), a3, ⟨fun i hi => ?_, a5, a6⟩, ⟨fun i hi => ?_, a8⟩, a9, ?_, ?_, a12, ⟨b1, b2, b3, b4, by rw [List.length_set]; exact b5⟩, a14, a15⟩
  · by_cases e : i = j
    · subst e
      rw [kup_eq, kup_eq, kup_eq]
      exact k_sets hcj
    · rw [kup_ne _ _ e, kup_ne _ _ e, kup_ne _ _ e]
      exact k_seto (a4 i hi) (hne i hi e)
  · refine k_seto (a7 i hi) (fun e => ?_)
    have h9 := a7 i hi
    rw [← e, hcj] at h9
    have h10 := (Prod.mk.inj (Sum.inr.inj (Prod.mk.inj (Option.some.inj h9)).2)).1
    omega
  · unfold kLP
    rw [List.getElem?_set_ne n1, List.getElem?_set_ne n2]; exact a10
  · unfold kLP
    rw [List.getElem?_set_ne n3, List.getElem?_set_ne n4]; exact a11
theorem kFrm_six {c0 c1 c2 c3 c4 c5 : Nat × va_E} {r u : va_W} (h : kFrm (c0 :: c1 :: c2 :: c3 :: c4 :: c5 :: r) u) : ∃ r', u = c0 :: c1 :: c2 :: c3 :: c4 :: c5 :: r' := by
  obtain ⟨hl, h⟩ := h
  have h0 := h 0 (by omega)
  have h1 := h 1 (by omega)
  have h2 := h 2 (by omega)
  have h3 := h 3 (by omega)
  have h4 := h 4 (by omega)
  have h5 := h 5 (by omega)
  rcases u with _ | ⟨a0, _ | ⟨a1, _ | ⟨a2, _ | ⟨a3, _ | ⟨a4, _ | ⟨a5, r'⟩⟩⟩⟩⟩⟩
  · cases h0
  · cases h1
  · cases h2
  · cases h3
  · cases h4
  · cases h5
  · cases h0; cases h1; cases h2; cases h3; cases h4; cases h5
    exact ⟨r', rfl⟩

