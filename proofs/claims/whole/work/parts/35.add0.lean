/-! ===== arrays of references: new, copied, their class ===== -/
section KADD
variable {p : Program} {l : Launch} {e : Env} {R : Room} {s : State} {m : MethodId} {args : Array Value} {below : List Frame} {meth : Method} {c : Code} {H : Heap} {locs : List Loc} {cells slots : Nat} {Q : State → Prop}
variable {cc : ByteArray} {own : String} {wsm : List Cond} {nL : Nat} {D : va_G} {cI cJ cZ cO : ClassId} {z mi : Nat} {A : Nat → Prop} {ws : va_W} {pc : Nat} {ls : Array Slot} {rest : List Value}
/-- an array of objects, as a cell's kind -/
abbrev kOA (cO : ClassId) (n : Nat) (f : Nat → Option Nat) : va_E := .inl (cO, n, .inr (.inr (.inr (.inr f))))
theorem k_newq (hC : kC p l s m args meth c cc own wsm nL D (kTy cI cJ cZ cO) z mi A) (hG : kG D A s ws H locs) {index : Nat} (hcl : Cond.classLink own index "java/lang/Object" ∈ wsm) (N : Nat) {n : Int32} (hn : ¬ n < 0) (hN : n.toNatClampNeg = N) (hbytes : N * 4 ≤ 536870912) (hcells : cells + 1 ≤ R.cells) (hslots : slots + N ≤ R.slots) (hdg : decode cc pc = .ok (.anewarray index, 3))
    (kk : ∀ (q : Nat) (H1 : Heap), kG D A s (ws ++ [(q, kOA cO N (fun _ => none))]) H1 locs → W p l e R s m args below meth c H1 locs (cells + 1) (slots + N) Q (F0 m (pc + 3) ls (.ref q :: rest))) : W p l e R s m args below meth c H locs cells slots Q (F0 m pc ls (.int n :: rest)) := by
  refine va_newq hC.x hC.b hC.o (hC.t _ hcl) hC.Z.2.1.2.2.2 hC.K hG.1 hG.2.1 hG.2.2 hC.up hn hN hbytes hcells hslots hdg (fun q cA H1 h1 h2 h3 h4 => ?_)
  have e := k_cls hC.K h1 (cB := cO) 3 rfl (Or.inl ⟨_, rfl⟩)
  subst e
  exact kk q H1 ⟨h2, h3, h4⟩
theorem k_copyq (hC : kC p l s m args meth c cc own wsm nL D (kTy cI cJ cZ cO) z mi A) (hG : kG D A s ws H locs) {index a a0 : Nat} (hml : ls.size = nL) (hlk : Cond.methodLink own index arraycopyName ∈ wsm) (hnat : Cond.native arraycopyName ∈ wsm) (hst : Cond.static arraycopyName ∈ wsm) (hini : Cond.initialized "java/lang/System" ∈ wsm) (q0 q1 : Nat) {n0 n1 n : Nat} {f g : Nat → Option Nat} {C : String} (ha0 : ws[q0]? = some (a0, kOA cO n0 f)) (ha1 : ws[q1]? = some (a, kOA cO n1 g)) (hcast : Cond.castable C "java/lang/Object" ∈ kBad) (hn0 : n ≤ n0) (hn1 : n ≤ n1) (hn : n < 2 ^ 31) (hel : ∀ i, i < n → ∀ y, f i = some y → ∃ cellV : Cell, H[y]? = some cellV ∧ cellV.vm.isStatics = false ∧ s.vm.findClass C = some cellV.cls)
    (hframes : 1 ≤ R.frames) (hlocals : (rest.map fun v => v.category).sum + (nativeFrameWords "java/lang/System" "arraycopy" 5 + 11) ≤ R.locals) (hdg : decode cc pc = .ok (.invokestatic index, 3))
    (kk : ∀ (H1 : Heap) (locs1 : List Loc), kG D A s (ws.set q1 (a, kOA cO n1 (va_cpy f g 0 0 n))) H1 locs1 → W p l e R s m args below meth c H1 locs1 cells slots Q (F0 m (pc + 3) ls rest)) : W p l e R s m args below meth c H locs cells slots Q (F0 m pc ls (.int (nI n) :: .int 0 :: .ref a :: .int 0 :: .ref a0 :: rest)) := by
  obtain ⟨c0, t0, f1, f2, f3⟩ := Cond.castable_spec (va_Nw.use (A := args) rfl (hC.Z.2.1.1 _ hcast))
  have ez : (0 : Int32).toNatClampNeg = 0 := rfl
  have en := nI_clamp hn
  refine va_copyq hC.x hC.b (hC.nl.trans hml.symm) hC.o (hC.t _ hlk) (hC.t _ hnat) (hC.t _ hst) (hC.t _ hini) hC.K hG.1 hG.2.1 hG.2.2 q0 q1 3 3 (C := C) ha0 ha1 rfl rfl (by decide) (by decide) (nI_pos hn) (by rw [ez, en]; omega) (by rw [ez, en]; omega) (fun i hi y hy => hel i (by rw [en] at hi; exact hi) y (by rw [ez, Nat.zero_add] at hy; exact hy)) (fun comp c1 h1 h2 => ?_) hframes hlocals hdg (fun H1 locs1 h1 h2 h3 => ?_)
  · cases f1.symm.trans h2
    cases f2.symm.trans h1
    exact f3
  · rw [ez, en] at h1 h2
    exact kk H1 locs1 ⟨h1, h2, h3⟩
theorem k_getC (hC : kC p l s m args meth c cc own wsm nL D (kTy cI cJ cZ cO) z mi A) (hG : kG D A s ws H locs) {index a q0 n0 : Nat} {f : Nat → Option Nat} (hml : ls.size = nL) (hlk : Cond.methodLink own index ⟨"java/lang/Object", "getClass", "()Ljava/lang/Class;"⟩ ∈ wsm) (hsel : Cond.selects "[Ljava/lang/Object;" ⟨"java/lang/Object", "getClass", "()Ljava/lang/Class;"⟩ ⟨"java/lang/Object", "getClass", "()Ljava/lang/Class;"⟩ ∈ wsm) (hinst : Cond.instanceMethod ⟨"java/lang/Object", "getClass", "()Ljava/lang/Class;"⟩ ∈ wsm) (hnat : Cond.native ⟨"java/lang/Object", "getClass", "()Ljava/lang/Class;"⟩ ∈ wsm) (ha0 : ws[q0]? = some (a, kOA cO n0 f)) (hframes : 1 ≤ R.frames) (hlocals : (rest.map fun v => v.category).sum + 14 ≤ R.locals) (hdg : decode cc pc = .ok (.invokevirtual index, 3))
    (kk : W p l e R s m args below meth c H locs cells slots Q (F0 m (pc + 3) ls (.ref mi :: rest))) : W p l e R s m args below meth c H locs cells slots Q (F0 m pc ls (.ref a :: rest)) :=
  va_getC hC.x hC.b (hC.nl.trans hml.symm) hC.o (hC.t _ hlk) (va_Nw.use (A := args) rfl (hC.Z.2.1.1 _ (List.mem_of_getElem? (i := 6) rfl))) (hC.t _ hsel) (hC.t _ hinst) (hC.t _ hnat) hC.Z.2.1.2.2.1 ⟨_, hG.1 q0 _ ha0, rfl, va_nmO (hC.K.2 3 _ rfl).2 rfl⟩ hframes hlocals hdg kk
theorem k_max10 : (if (10 : Int32) < nI 1 then nI 1 else 10) = nI 10 := by decide
theorem k_grow {n : Nat} (h2 : 2 ≤ n) (hn : n ≤ 40) : (if nI 1 < nI (n / 2) then nI (n / 2) else nI 1) = nI (n / 2) := by
  by_cases e : n / 2 = 1
  · rw [e]; rfl
  · exact if_pos (nI_lt (by omega) (by omega))
theorem k_ishr1 {n : Nat} (hn : n < 2 ^ 31) : nI n >>> ((1 : Int32) &&& 31) = nI (n / 2) := by
  have k := pk_shrN (n := n) hn ((1 : Int32) &&& 31) 1 (by decide)
  rw [Nat.pow_one] at k
  exact k
theorem k_setlast (ws : va_W) (x y : Nat × va_E) : (ws ++ [x]).set ws.length y = ws ++ [y] := by
  rw [List.set_append_right _ _ (Nat.le_refl _), Nat.sub_self]; rfl
theorem k_last (ws : va_W) (x : Nat × va_E) : (ws ++ [x])[ws.length]? = some x := by
  rw [List.getElem?_append_right (Nat.le_refl _), Nat.sub_self]; rfl
theorem k_fst {ws : va_W} {k : Nat} {c x : Nat × va_E} (h : ws[k]? = some c) : (ws ++ [x])[k]? = some c := by
  rw [List.getElem?_append_left (List.getElem?_eq_some_iff.mp h).1]; exact h
end KADD
