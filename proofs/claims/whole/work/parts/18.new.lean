/-! ===== new arrays and objects, at the world's end ===== -/
section KN
variable {p : Program} {l : Launch} {e : Env} {R : Room} {s : State} {m : MethodId} {args : Array Value} {below : List Frame} {meth : Method} {c : Code} {H : Heap} {locs : List Loc} {cells slots : Nat} {Q : State → Prop}
variable {cc : ByteArray} {own : String} {wsm : List Cond} {nL : Nat} {D : va_G} {cI cJ cZ cO : ClassId} {z mi : Nat} {A : Nat → Prop} {ws : va_W} {pc : Nat} {ls : Array Slot} {rest : List Value}
theorem k_cls {cB : ClassId} (hK : va_K D vwCl (kTy cI cJ cZ cO) s) {ty : FieldType} {cA : ClassId} (h : va_K D vwCl (kTy cI cJ cZ cO ++ [(cA, ty)]) s) (i : Nat) (hi : (kTy cI cJ cZ cO)[i]? = some (cB, ty)) (hty : (∃ C, ty = .object C) ∨ ∀ U cX, va_RA U cX ty = (U.vm.findClass ("[" ++ ty.toString) = some cX)) : cA = cB := by
  have h1 := (hK.2 i _ hi).2
  have h2 := (h.2 4 (cA, ty) rfl).2
  rcases hty with ⟨C, rfl⟩ | hty
  · obtain ⟨_, _, _, _, _, e1⟩ := h1
    obtain ⟨_, _, _, _, _, e2⟩ := h2
    exact Option.some.inj (e2.symm.trans e1)
  · rw [hty] at h1 h2
    exact Option.some.inj (h2.symm.trans h1)
theorem k_newI (hC : kC p l s m args meth c cc own wsm nL D (kTy cI cJ cZ cO) z mi A) (hG : kG D A s ws H locs) (N : Nat) {n : Int32} (harr : Cond.arrayClass .int ∈ wsm) (hn : ¬ n < 0) (hN : n.toNatClampNeg = N) (hbytes : N * componentBytes .int ≤ 536870912) (hcells : cells + 1 ≤ R.cells) (hslots : slots + N ≤ R.slots) (hdg : decode cc pc = .ok (.newarray .int, 2))
    (kk : ∀ (q : Nat) (H1 : Heap), kG D A s (ws ++ [(q, .inl (cI, N, .inl (fun _ => 0)))]) H1 locs → W p l e R s m args below meth c H1 locs (cells + 1) (slots + N) Q (F0 m (pc + 2) ls (.ref q :: rest))) : W p l e R s m args below meth c H locs cells slots Q (F0 m pc ls (.int n :: rest)) := by
  refine va_newa (atype := .int) (ty := .int) (a0 := (N, .inl (fun _ => 0))) hC.x hC.b (hC.t _ harr) rfl hC.K hG.1 hG.2.1 hG.2.2 hC.up (fun cA => rfl) hn hN hbytes hcells hslots hdg (fun q cA H1 h1 h2 h3 h4 => ?_)
  have e := k_cls hC.K h1 (cB := cI) 0 rfl (Or.inr fun _ _ => rfl)
  subst e
  exact kk q H1 ⟨h2, h3, h4⟩
theorem k_newZ (hC : kC p l s m args meth c cc own wsm nL D (kTy cI cJ cZ cO) z mi A) (hG : kG D A s ws H locs) (N : Nat) {n : Int32} (harr : Cond.arrayClass .boolean ∈ wsm) (hn : ¬ n < 0) (hN : n.toNatClampNeg = N) (hbytes : N * componentBytes .boolean ≤ 536870912) (hcells : cells + 1 ≤ R.cells) (hslots : slots + N ≤ R.slots) (hdg : decode cc pc = .ok (.newarray .boolean, 2))
    (kk : ∀ (q : Nat) (H1 : Heap), kG D A s (ws ++ [(q, .inl (cZ, N, .inl (fun j9 => kb ((fun _ => false) j9))))]) H1 locs → W p l e R s m args below meth c H1 locs (cells + 1) (slots + N) Q (F0 m (pc + 2) ls (.ref q :: rest))) : W p l e R s m args below meth c H locs cells slots Q (F0 m pc ls (.int n :: rest)) := by
  refine va_newa (atype := .boolean) (ty := .boolean) (a0 := (N, .inl (fun _ => 0))) hC.x hC.b (hC.t _ harr) rfl hC.K hG.1 hG.2.1 hG.2.2 hC.up (fun cA => rfl) hn hN hbytes hcells hslots hdg (fun q cA H1 h1 h2 h3 h4 => ?_)
  have e := k_cls hC.K h1 (cB := cZ) 2 rfl (Or.inr fun _ _ => rfl)
  subst e
  exact kk q H1 ⟨h2, h3, h4⟩
theorem k_newJ (hC : kC p l s m args meth c cc own wsm nL D (kTy cI cJ cZ cO) z mi A) (hG : kG D A s ws H locs) (N : Nat) {n : Int32} (harr : Cond.arrayClass .long ∈ wsm) (hn : ¬ n < 0) (hN : n.toNatClampNeg = N) (hbytes : N * componentBytes .long ≤ 536870912) (hcells : cells + 1 ≤ R.cells) (hslots : slots + N ≤ R.slots) (hdg : decode cc pc = .ok (.newarray .long, 2))
    (kk : ∀ (q : Nat) (H1 : Heap), kG D A s (ws ++ [(q, .inl (cJ, N, .inr (.inl (fun _ => 0))))]) H1 locs → W p l e R s m args below meth c H1 locs (cells + 1) (slots + N) Q (F0 m (pc + 2) ls (.ref q :: rest))) : W p l e R s m args below meth c H locs cells slots Q (F0 m pc ls (.int n :: rest)) := by
  refine va_newa (atype := .long) (ty := .long) (a0 := (N, .inr (.inl (fun _ => 0)))) hC.x hC.b (hC.t _ harr) rfl hC.K hG.1 hG.2.1 hG.2.2 hC.up (fun cA => rfl) hn hN hbytes hcells hslots hdg (fun q cA H1 h1 h2 h3 h4 => ?_)
  have e := k_cls hC.K h1 (cB := cJ) 1 rfl (Or.inr fun _ _ => rfl)
  subst e
  exact kk q H1 ⟨h2, h3, h4⟩
/-- a new object with its fields as they come -/
theorem k_new {C : String} {T : u_T} {N ci index : Nat} {fs : List Value} {ty0 : Nat → FieldType} (hC : kC p l s m args meth c cc own wsm nL D (kTy cI cJ cZ cO) z mi A) (hG : kG D A s ws H locs) (hin : ∀ w ∈ u_ws C T N, w ∈ wsm) (hty : ∀ k, k < N → parseFieldDescriptor (T k).2.2.1 = some (ty0 k)) (hcl : Cond.classLink own index C ∈ wsm) (hinst : Cond.instantiable C N ∈ wsm) (hini : Cond.initialized C ∈ wsm) (hc : vwCl[ci]? = some (C, T, N)) (hfs : ∀ j, j < N → defaultValue (ty0 j) = vp_V fs j) (hcells : cells + 1 ≤ R.cells) (hslots : slots + N ≤ R.slots) (hdg : decode cc pc = .ok (.new index, 3))
    (kk : ∀ (q : Nat) (H1 : Heap), kG D A s (ws ++ [(q, .inr (ci, fs))]) H1 locs → W p l e R s m args below meth c H1 locs (cells + 1) (slots + N) Q (F0 m (pc + 3) ls (.ref q :: rest))) : W p l e R s m args below meth c H locs cells slots Q (F0 m pc ls rest) :=
  va_new hC.x hC.b hC.t hin ty0 hty hC.o (hC.t _ hcl) (hC.t _ hinst) (hC.t _ hini) hC.K hG.1 hG.2.1 hG.2.2 hC.up hc hfs hcells hslots hdg (fun q H1 h1 h2 h3 => kk q H1 ⟨h1, h2, h3⟩)
end KN
