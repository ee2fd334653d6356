/-! ===== the frame of all contracts: a world ws of cells by their places, handed whole to every call ===== -/
section KB1
/-- the array classes, by their places: int, long, boolean, Object -/
abbrev kTy (cI cJ cZ cO : ClassId) : List (ClassId × FieldType) := [(cI, .int), (cJ, .long), (cZ, .boolean), (cO, .object "java/lang/Object")]
def kIAE : String := "java/lang/IllegalArgumentException"
def kISE : String := "java/lang/IllegalStateException"
def kIOB : String := "java/lang/IndexOutOfBoundsException"
/-- the class's texts, by their places in its pool -/
def kTexts : List (Nat × String) := [(205, "no room for an item"), (203, "the parent is a leaf"), (201, "no such rate"), (199, "no such item"), (197, "the item is a heading"), (195, "no closed drawing"), (192, "out of its range"), (188, "nothing to claim"), (153, "too great a variation"), (111, "no room for a rate"), (82, "no room for an opening"), (69, "the wall may not go there"), (58, "no drawing that goes on")]
def kTX (U : State) : Prop := ∀ q ∈ kTexts, ∃ a, vk_R RX3 q.1 q.2 a U
theorem kTX.warm {s U : State} (hW : s.WarmedH U.vm) (h : kTX s) : kTX U := fun q hq => (h q hq).imp fun _ ha => ha.warm hW
theorem kTX.same {u U : State} (hv : U.vm = u.vm) (h : kTX u) : kTX U := fun q hq => (h q hq).imp fun _ ha => ha.same hv
/-- words that the tables decide and that no list of good ones holds -/
def kBad : List Cond := [.castable kIAE kIAE, .castable kISE kISE, .castable kIOB kIOB, .castable RX1 "java/lang/Object", .castable RX2 "java/lang/Object", .castable "[Ljava/lang/Object;" "java/lang/Object", .declares ⟨"java/lang/Object", "getClass", "()Ljava/lang/Class;"⟩,
  .declares ⟨"java/lang/Exception", "<init>", "(Ljava/lang/String;)V"⟩, .declares ⟨"java/lang/RuntimeException", "<init>", "(Ljava/lang/String;)V"⟩, .declares ⟨"java/lang/Throwable", "<init>", "(Ljava/lang/String;)V"⟩,
  .methodLinkNest RX3 9 ⟨RX0, "<init>", "()V"⟩ RX3, .methodLinkNest RX1 26 ⟨RX3, "hundredthsRoundedUp", "(J)J"⟩ RX3]
def kBok : Cond → Bool
  | .castable .. | .declares .. | .methodLinkNest .. => true
  | _ => false
theorem va_Nw.warmB {w : Cond} (hk : kBok w = true) {s U : State} (hW : s.WarmedH U.vm) (h : va_Nw w s) : va_Nw w U := by
  cases w with
  | castable a b => exact va_tabs rfl (rfl : (s.setVm U.vm).vm = U.vm) (by rw [Cond.castable_setVm hW.alike]; exact h)
  | declares x => exact va_Nw.warmD hW h
  | methodLinkNest a i x hh => exact va_Nw.warmM hW h
  | _ => exact absurd (show false = true from hk) (by decide)
def kNo : List (String × String) := [(kIAE, kISE), (kIAE, kIOB), (kISE, kIAE), (kISE, kIOB), (kIOB, kIAE), (kIOB, kISE)]
def kBw (mi : Nat) (U : State) : Prop := (∀ w ∈ kBad, va_Nw w U) ∧ (∀ q ∈ kNo, va_Nc q.1 q.2 U) ∧ va_Mi "[Ljava/lang/Object;" mi U ∧ va_AO "java/lang/Object" U
theorem kBad_ok : ∀ w ∈ kBad, kBok w = true := by
  intro w hw
  simp only [kBad, List.mem_cons, List.not_mem_nil, or_false] at hw
  rcases hw with rfl | rfl | rfl | rfl | rfl | rfl | rfl | rfl | rfl | rfl | rfl | rfl <;> rfl
theorem kBw.warm {mi : Nat} {s U : State} (hW : s.WarmedH U.vm) (h : kBw mi s) : kBw mi U :=
  ⟨fun w hw => (h.1 w hw).warmB (kBad_ok w hw) hW, fun q hq => (h.2.1 q hq).moved hW.alike, h.2.2.1.moved hW.alike, h.2.2.2.moved hW.alike⟩
theorem kBw.same {mi : Nat} {u U : State} (hv : u.vm = U.vm) (h : kBw mi u) : kBw mi U := by
  have hA : u.vm.Alike U.vm := by rw [hv]; exact Vm.Alike.refl _
  refine ⟨fun w hw => ?_, fun q hq => (h.2.1 q hq).moved hA, h.2.2.1.moved hA, h.2.2.2.moved hA⟩
  have hk := kBad_ok w hw
  have h1 := h.1 w hw
  cases w with
  | castable a b => exact va_Nw.same rfl hv h1
  | declares x => exact va_Nw.same rfl hv h1
  | methodLinkNest a i x hh => exact va_Nw.same rfl hv h1
  | _ => exact absurd (show false = true from hk) (by decide)
/-- what the tables and the statics say, and what stays -/
def kZ (z mi : Nat) (A : Nat → Prop) (U : State) (H : Heap) : Prop := kTX U ∧ kBw mi U ∧ vx_Zq Bundle.tN "UNASSIGNED_STACK" Bundle.steD A U H ∧ vx_Zq Bundle.tN "SUPPRESSED_SENTINEL" Bundle.listD A U H ∧ va_Z RJx4a65c "DEFAULTCAPACITY_EMPTY_ELEMENTDATA" "[Ljava/lang/Object;" (.ref z) A U H ∧ va_T (.object "java/lang/Object") z 0 (fun _ => .null) A U H
theorem kZ.to {z mi : Nat} {A B : Nat → Prop} {s U : State} {H : Heap} {locs : List Loc} (h : kZ z mi A s s.heap) (hS : va_S A s.heap H locs) (hAB : ∀ q, B q → A q) (hW : s.WarmedH U.vm) (hU : U.heap = H) : kZ z mi B U U.heap := by
  subst hU
  obtain ⟨h1, h2, h3, h4, h5, h6⟩ := h
  exact ⟨h1.warm hW, h2.warm hW, ((h3.kept hS.2.1).narrow hAB).moved hW.alike, ((h4.kept hS.2.1).narrow hAB).moved hW.alike, ((h5.kept hS.2.1).narrow hAB).moved hW.alike, ((h6.kept hS.2.1).narrow hAB).moved hW.alike⟩
theorem kZ.same {z mi : Nat} {A : Nat → Prop} {u U : State} {H : Heap} (hv : u.vm = U.vm) (h : kZ z mi A u H) : kZ z mi A U H := by
  obtain ⟨h1, h2, h3, h4, h5, h6⟩ := h
  have hA : u.vm.Alike U.vm := by rw [hv]; exact Vm.Alike.refl _
  exact ⟨h1.same hv.symm, h2.same hv, h3.moved hA, h4.moved hA, h5.moved hA, h6.moved hA⟩
/-- a contract's start, its end, its throw -/
def kP (D : va_G) (ty : List (ClassId × FieldType)) (z mi : Nat) (av : List Value) (ws : va_W) (sz : Nat) : Array Value → State → Prop :=
  va_Pc av (fun U => U.heap.size = sz ∧ va_P D vwCl ws U.heap ∧ va_K D vwCl ty U ∧ va_D (va_A ws sz) ws ∧ kZ z mi (va_A ws sz) U U.heap)
def kQ (D : va_G) (post : Option Value → va_W → Prop) (A : Nat → Prop) : Array Value → State → Outcome → State → Prop := fun _ st oc t =>
  (∃ (v : Option Value) (u : va_W), oc = .returned v ∧ post v u ∧ va_P D vwCl u t.heap ∧ va_D A u) ∧ va_F A st t
def kXx (D : va_G) (px : String → va_W → Prop) (A : Nat → Prop) : String → State → State → Prop := fun E st t =>
  ∃ u : va_W, px E u ∧ va_P D vwCl u t.heap ∧ va_D A u ∧ va_F A st t
def kM (l : Launch) (D : va_G) (ty : List (ClassId × FieldType)) (z mi : Nat) (y : MethodName) (wsm : List Cond) (rm : Room) (av : List Value) (ws : va_W) (post : Option Value → va_W → Prop) (px : String → va_W → Prop) : Prop :=
  ∀ sz : Nat, vx_Met l y wsm rm (kP D ty z mi av ws sz) (kQ D post (va_A ws sz)) (kXx D px (va_A ws sz)) rm.cells rm.slots (va_A ws sz)
theorem kP.blind {D : va_G} {ty : List (ClassId × FieldType)} {z mi : Nat} {av : List Value} {ws : va_W} {sz : Nat} : FrameBlind (kP D ty z mi av ws sz) := by
  intro a U g mk h
  obtain ⟨h1, h2, h3, h4, h5, h6⟩ := h
  exact ⟨h1, h2, h3, va_K.moved (u := U) (U := U.calling g mk a) (Vm.Alike.refl U.vm) h4, h5, kZ.same (u := U) (U := U.calling g mk a) rfl h6⟩
/-- what a body stands on -/
def kC (p : Program) (l : Launch) (s : State) (m : MethodId) (args : Array Value) (meth : Method) (c : Code) (cc : ByteArray) (own : String) (wsm : List Cond) (nL : Nat) (D : va_G) (ty : List (ClassId × FieldType)) (z mi : Nat) (A : Nat → Prop) : Prop :=
  p.tables.exec = Jvm.exec ∧ c.code = cc ∧ c.maxLocals = nL ∧ s.vm.findClass own = some m.cls ∧ (∀ w ∈ wsm, w.before args s = true) ∧ meth.locks = false ∧ (∀ x ∈ c.exceptionTable.toList, False) ∧ va_K D vwCl ty s ∧ kZ z mi A s s.heap ∧ (∀ q, s.heap.size ≤ q → A q) ∧ l.stackTraces = false
/-- the world in the heap H -/
def kG (D : va_G) (A : Nat → Prop) (s : State) (ws : va_W) (H : Heap) (locs : List Loc) : Prop := va_P D vwCl ws H ∧ va_D A ws ∧ va_S A s.heap H locs
theorem kG.sub {D : va_G} {A : Nat → Prop} {s : State} {ws : va_W} {H : Heap} {locs : List Loc} (h : kG D A s ws H locs) (hA : ∀ q, s.heap.size ≤ q → A q) : ∀ q, va_A ws H.size q → A q := by
  intro q hq
  rcases hq with ⟨k, e, hk⟩ | hq
  · exact h.2.1.2 k _ hk
  · exact hA q (Nat.le_trans h.2.2.1 hq)
theorem kM.of {l : Launch} (hl : l.stackTraces = false) {D : va_G} {ty : List (ClassId × FieldType)} {z mi : Nat} {y : MethodName} {wsm ws' : List Cond} {rm : Room} {av : List Value} {ws : va_W} {post : Option Value → va_W → Prop} {px : String → va_W → Prop} {cc : ByteArray} {maxL : Nat} {ret : Option FieldType}
    (hy : plainName y.cls = true) (hw : wsm = Cond.code y cc maxL ret :: ws') (hn : (lg_sl av).length ≤ maxL)
    (body : ∀ (p : Program) (e : Env) (s : State) (m : MethodId) (args : Array Value) (below : List Frame) (meth : Method) (c : Code) (A : Nat → Prop) (ls : Array Slot), kC p l s m args meth c cc y.cls wsm maxL D ty z mi A → meth.sig.returnType = ret → meth.name = y.name → kG D A s ws s.heap [] → lv_has ls maxL (lv_args 0 av) →
      W p l e rm s m args below meth c s.heap [] 0 0 (vx_MQ below (kQ D post A) (kXx D px A) args s rm.cells rm.slots A) (F0 m 0 ls [])) : kM l D ty z mi y wsm rm av ws post px := by
  intro sz
  refine vx_ofW (cc := cc) (maxL := maxL) (ret := ret) hy hw ?_
  intro p e s m args below meth c s₁ B hml htb hv
  obtain ⟨rfl, hsz, hP, hK, hD, hZ⟩ := hv
  subst hsz
  have hown : s.vm.findClass y.cls = some m.cls := findClass_of_methodNamed B.named
  have hS : va_S (va_A ws s.heap.size) s.heap s.heap [] := va_S.rf
  have hl1 := lv_entry av (n := maxL) hn
  rw [lg_entry_eq]
  generalize (lg_sl av ++ List.replicate (maxL - (lg_sl av).length) Slot.unset).toArray = ls at hl1 ⊢
  exact body p e s m _ below meth c (va_A ws s.heap.size) ls ⟨B.exec, B.bytes, hml, hown, atoms_spec (ws := wsm) B.pre, B.notSynchronized, htb, hK, hZ, fun q h => Or.inr h, hl⟩ B.returns (name_of_methodNamed B.named B.method).1 ⟨hP, hD, hS⟩ hl1
end KB1
