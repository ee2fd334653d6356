section
-- ===== PART A: goes FIRST, ahead of the names: the tables' words, and 'selects' of the private methods out of them =====
/-- a private method of a class that the tables say can be made, by its rows of tables_1 -/
def lw_okq (q : MethodName × Nat) : Prop := (q.1.cls ≠ "java/lang/invoke/MethodHandle" ∧ q.1.cls ≠ "java/lang/invoke/VarHandle") ∧ Cond.instantiable q.1.cls q.2 ∈ tables_1 ∧ Cond.privateMethod q.1 ∈ tables_1 ∧ Cond.instanceMethod q.1 ∈ tables_1
theorem lw_p0 : lw_okq (⟨"TakeoffSheet", "ownSum", "(LTakeoffSheet$Item;)J"⟩, 7) := ⟨⟨by decide +kernel, by decide +kernel⟩, List.mem_of_getElem? (i := 22) (by decide +kernel), List.mem_of_getElem? (i := 153) (by decide +kernel), List.mem_of_getElem? (i := 154) (by decide +kernel)⟩
theorem lw_p1 : lw_okq (⟨"TakeoffSheet", "priceOf", "(LTakeoffSheet$Rate;)I"⟩, 7) := ⟨⟨by decide +kernel, by decide +kernel⟩, List.mem_of_getElem? (i := 22) (by decide +kernel), List.mem_of_getElem? (i := 168) (by decide +kernel), List.mem_of_getElem? (i := 169) (by decide +kernel)⟩
theorem lw_p2 : lw_okq (⟨"java/lang/Throwable", "fillInStackTrace", "(I)Ljava/lang/Throwable;"⟩, 6) := ⟨⟨by decide +kernel, by decide +kernel⟩, List.mem_of_getElem? (i := 235) (by decide +kernel), List.mem_of_getElem? (i := 233) (by decide +kernel), List.mem_of_getElem? (i := 234) (by decide +kernel)⟩
theorem lw_p3 : lw_okq (⟨"TakeoffSheet$Drawing", "isFree", "(II)Z"⟩, 12) := ⟨⟨by decide +kernel, by decide +kernel⟩, List.mem_of_getElem? (i := 30) (by decide +kernel), List.mem_of_getElem? (i := 316) (by decide +kernel), List.mem_of_getElem? (i := 317) (by decide +kernel)⟩
theorem lw_p4 : lw_okq (⟨"TakeoffSheet$Drawing", "closesAt", "(II)Z"⟩, 12) := ⟨⟨by decide +kernel, by decide +kernel⟩, List.mem_of_getElem? (i := 30) (by decide +kernel), List.mem_of_getElem? (i := 323) (by decide +kernel), List.mem_of_getElem? (i := 324) (by decide +kernel)⟩
theorem lw_p5 : lw_okq (⟨"TakeoffSheet", "checkClosed", "()V"⟩, 7) := ⟨⟨by decide +kernel, by decide +kernel⟩, List.mem_of_getElem? (i := 22) (by decide +kernel), List.mem_of_getElem? (i := 360) (by decide +kernel), List.mem_of_getElem? (i := 361) (by decide +kernel)⟩
theorem lw_p6 : lw_okq (⟨"TakeoffSheet$Drawing", "squaresInStrip", "(I)I"⟩, 12) := ⟨⟨by decide +kernel, by decide +kernel⟩, List.mem_of_getElem? (i := 30) (by decide +kernel), List.mem_of_getElem? (i := 402) (by decide +kernel), List.mem_of_getElem? (i := 403) (by decide +kernel)⟩
theorem lw_p7 : lw_okq (⟨"java/util/ArrayList", "add", "(Ljava/lang/Object;[Ljava/lang/Object;I)V"⟩, 3) := ⟨⟨by decide +kernel, by decide +kernel⟩, List.mem_of_getElem? (i := 78) (by decide +kernel), List.mem_of_getElem? (i := 453) (by decide +kernel), List.mem_of_getElem? (i := 454) (by decide +kernel)⟩
theorem lw_p8 : lw_okq (⟨"java/util/ArrayList", "grow", "()[Ljava/lang/Object;"⟩, 3) := ⟨⟨by decide +kernel, by decide +kernel⟩, List.mem_of_getElem? (i := 78) (by decide +kernel), List.mem_of_getElem? (i := 457) (by decide +kernel), List.mem_of_getElem? (i := 458) (by decide +kernel)⟩
theorem lw_p9 : lw_okq (⟨"java/util/ArrayList", "grow", "(I)[Ljava/lang/Object;"⟩, 3) := ⟨⟨by decide +kernel, by decide +kernel⟩, List.mem_of_getElem? (i := 78) (by decide +kernel), List.mem_of_getElem? (i := 461) (by decide +kernel), List.mem_of_getElem? (i := 462) (by decide +kernel)⟩
theorem lw_p10 : lw_okq (⟨"TakeoffSheet", "rateAt", "(I)LTakeoffSheet$Rate;"⟩, 7) := ⟨⟨by decide +kernel, by decide +kernel⟩, List.mem_of_getElem? (i := 22) (by decide +kernel), List.mem_of_getElem? (i := 515) (by decide +kernel), List.mem_of_getElem? (i := 516) (by decide +kernel)⟩
theorem lw_p11 : lw_okq (⟨"TakeoffSheet", "parentAt", "(I)LTakeoffSheet$Item;"⟩, 7) := ⟨⟨by decide +kernel, by decide +kernel⟩, List.mem_of_getElem? (i := 22) (by decide +kernel), List.mem_of_getElem? (i := 527) (by decide +kernel), List.mem_of_getElem? (i := 528) (by decide +kernel)⟩
theorem lw_p12 : lw_okq (⟨"TakeoffSheet", "itemAt", "(I)LTakeoffSheet$Item;"⟩, 7) := ⟨⟨by decide +kernel, by decide +kernel⟩, List.mem_of_getElem? (i := 22) (by decide +kernel), List.mem_of_getElem? (i := 531) (by decide +kernel), List.mem_of_getElem? (i := 532) (by decide +kernel)⟩
theorem lw_p13 : lw_okq (⟨"TakeoffSheet", "addItem", "(LTakeoffSheet$Item;LTakeoffSheet$Rate;I)I"⟩, 7) := ⟨⟨by decide +kernel, by decide +kernel⟩, List.mem_of_getElem? (i := 22) (by decide +kernel), List.mem_of_getElem? (i := 536) (by decide +kernel), List.mem_of_getElem? (i := 537) (by decide +kernel)⟩
theorem lw_p14 : lw_okq (⟨"TakeoffSheetModel", "goes", "(ZZZ)Z"⟩, 26) := ⟨⟨by decide +kernel, by decide +kernel⟩, List.mem_of_getElem? (i := 651) (by decide +kernel), List.mem_of_getElem? (i := 748) (by decide +kernel), List.mem_of_getElem? (i := 749) (by decide +kernel)⟩
theorem lw_p15 : lw_okq (⟨"TakeoffSheetModel", "canGo", "(III)Z"⟩, 26) := ⟨⟨by decide +kernel, by decide +kernel⟩, List.mem_of_getElem? (i := 651) (by decide +kernel), List.mem_of_getElem? (i := 756) (by decide +kernel), List.mem_of_getElem? (i := 757) (by decide +kernel)⟩
def lw_privs_1 : List (MethodName × Nat) := [(⟨"TakeoffSheet", "ownSum", "(LTakeoffSheet$Item;)J"⟩, 7), (⟨"TakeoffSheet", "priceOf", "(LTakeoffSheet$Rate;)I"⟩, 7), (⟨"java/lang/Throwable", "fillInStackTrace", "(I)Ljava/lang/Throwable;"⟩, 6), (⟨"TakeoffSheet$Drawing", "isFree", "(II)Z"⟩, 12), (⟨"TakeoffSheet$Drawing", "closesAt", "(II)Z"⟩, 12), (⟨"TakeoffSheet", "checkClosed", "()V"⟩, 7), (⟨"TakeoffSheet$Drawing", "squaresInStrip", "(I)I"⟩, 12), (⟨"java/util/ArrayList", "add", "(Ljava/lang/Object;[Ljava/lang/Object;I)V"⟩, 3), (⟨"java/util/ArrayList", "grow", "()[Ljava/lang/Object;"⟩, 3), (⟨"java/util/ArrayList", "grow", "(I)[Ljava/lang/Object;"⟩, 3), (⟨"TakeoffSheet", "rateAt", "(I)LTakeoffSheet$Rate;"⟩, 7), (⟨"TakeoffSheet", "parentAt", "(I)LTakeoffSheet$Item;"⟩, 7), (⟨"TakeoffSheet", "itemAt", "(I)LTakeoffSheet$Item;"⟩, 7), (⟨"TakeoffSheet", "addItem", "(LTakeoffSheet$Item;LTakeoffSheet$Rate;I)I"⟩, 7), (⟨"TakeoffSheetModel", "goes", "(ZZZ)Z"⟩, 26), (⟨"TakeoffSheetModel", "canGo", "(III)Z"⟩, 26)]
theorem lw_r1 : ∀ q ∈ lw_privs_1, lw_okq q := List.forall_mem_cons.mpr ⟨lw_p0, List.forall_mem_cons.mpr ⟨lw_p1, List.forall_mem_cons.mpr ⟨lw_p2, List.forall_mem_cons.mpr ⟨lw_p3, List.forall_mem_cons.mpr ⟨lw_p4, List.forall_mem_cons.mpr ⟨lw_p5, List.forall_mem_cons.mpr ⟨lw_p6, List.forall_mem_cons.mpr ⟨lw_p7, List.forall_mem_cons.mpr ⟨lw_p8, List.forall_mem_cons.mpr ⟨lw_p9, List.forall_mem_cons.mpr ⟨lw_p10, List.forall_mem_cons.mpr ⟨lw_p11, List.forall_mem_cons.mpr ⟨lw_p12, List.forall_mem_cons.mpr ⟨lw_p13, List.forall_mem_cons.mpr ⟨lw_p14, List.forall_mem_cons.mpr ⟨lw_p15, fun _ h => absurd h List.not_mem_nil⟩⟩⟩⟩⟩⟩⟩⟩⟩⟩⟩⟩⟩⟩⟩⟩
theorem lw_p16 : lw_okq (⟨"TakeoffSheetModel", "whole", "()I"⟩, 26) := ⟨⟨by decide +kernel, by decide +kernel⟩, List.mem_of_getElem? (i := 651) (by decide +kernel), List.mem_of_getElem? (i := 772) (by decide +kernel), List.mem_of_getElem? (i := 773) (by decide +kernel)⟩
theorem lw_p17 : lw_okq (⟨"TakeoffSheetModel", "net", "()I"⟩, 26) := ⟨⟨by decide +kernel, by decide +kernel⟩, List.mem_of_getElem? (i := 651) (by decide +kernel), List.mem_of_getElem? (i := 785) (by decide +kernel), List.mem_of_getElem? (i := 786) (by decide +kernel)⟩
theorem lw_p18 : lw_okq (⟨"TakeoffSheetModel", "isRate", "(I)Z"⟩, 26) := ⟨⟨by decide +kernel, by decide +kernel⟩, List.mem_of_getElem? (i := 651) (by decide +kernel), List.mem_of_getElem? (i := 801) (by decide +kernel), List.mem_of_getElem? (i := 802) (by decide +kernel)⟩
theorem lw_p19 : lw_okq (⟨"TakeoffSheetModel", "cents", "(I)I"⟩, 26) := ⟨⟨by decide +kernel, by decide +kernel⟩, List.mem_of_getElem? (i := 651) (by decide +kernel), List.mem_of_getElem? (i := 805) (by decide +kernel), List.mem_of_getElem? (i := 806) (by decide +kernel)⟩
theorem lw_p20 : lw_okq (⟨"TakeoffSheetModel", "isItem", "(I)Z"⟩, 26) := ⟨⟨by decide +kernel, by decide +kernel⟩, List.mem_of_getElem? (i := 651) (by decide +kernel), List.mem_of_getElem? (i := 813) (by decide +kernel), List.mem_of_getElem? (i := 814) (by decide +kernel)⟩
theorem lw_p21 : lw_okq (⟨"TakeoffSheetModel", "isLeaf", "(I)Z"⟩, 26) := ⟨⟨by decide +kernel, by decide +kernel⟩, List.mem_of_getElem? (i := 651) (by decide +kernel), List.mem_of_getElem? (i := 817) (by decide +kernel), List.mem_of_getElem? (i := 818) (by decide +kernel)⟩
theorem lw_p22 : lw_okq (⟨"TakeoffSheetModel", "isHeading", "(I)Z"⟩, 26) := ⟨⟨by decide +kernel, by decide +kernel⟩, List.mem_of_getElem? (i := 651) (by decide +kernel), List.mem_of_getElem? (i := 821) (by decide +kernel), List.mem_of_getElem? (i := 822) (by decide +kernel)⟩
theorem lw_p23 : lw_okq (⟨"TakeoffSheetModel", "adds", "(III)I"⟩, 26) := ⟨⟨by decide +kernel, by decide +kernel⟩, List.mem_of_getElem? (i := 651) (by decide +kernel), List.mem_of_getElem? (i := 825) (by decide +kernel), List.mem_of_getElem? (i := 826) (by decide +kernel)⟩
theorem lw_p24 : lw_okq (⟨"TakeoffSheetModel", "quantities", "(I)I"⟩, 26) := ⟨⟨by decide +kernel, by decide +kernel⟩, List.mem_of_getElem? (i := 651) (by decide +kernel), List.mem_of_getElem? (i := 849) (by decide +kernel), List.mem_of_getElem? (i := 850) (by decide +kernel)⟩
theorem lw_p25 : lw_okq (⟨"TakeoffSheetModel", "fills", "()V"⟩, 26) := ⟨⟨by decide +kernel, by decide +kernel⟩, List.mem_of_getElem? (i := 651) (by decide +kernel), List.mem_of_getElem? (i := 859) (by decide +kernel), List.mem_of_getElem? (i := 860) (by decide +kernel)⟩
theorem lw_p26 : lw_okq (⟨"TakeoffSheetModel", "isBelow", "(II)Z"⟩, 26) := ⟨⟨by decide +kernel, by decide +kernel⟩, List.mem_of_getElem? (i := 651) (by decide +kernel), List.mem_of_getElem? (i := 871) (by decide +kernel), List.mem_of_getElem? (i := 872) (by decide +kernel)⟩
theorem lw_p27 : lw_okq (⟨"TakeoffSheetModel", "worthNow", "()J"⟩, 26) := ⟨⟨by decide +kernel, by decide +kernel⟩, List.mem_of_getElem? (i := 651) (by decide +kernel), List.mem_of_getElem? (i := 887) (by decide +kernel), List.mem_of_getElem? (i := 888) (by decide +kernel)⟩
theorem lw_p28 : lw_okq (⟨"TakeoffSheetModel", "dueNow", "()J"⟩, 26) := ⟨⟨by decide +kernel, by decide +kernel⟩, List.mem_of_getElem? (i := 651) (by decide +kernel), List.mem_of_getElem? (i := 895) (by decide +kernel), List.mem_of_getElem? (i := 896) (by decide +kernel)⟩
def lw_privs_2 : List (MethodName × Nat) := [(⟨"TakeoffSheetModel", "whole", "()I"⟩, 26), (⟨"TakeoffSheetModel", "net", "()I"⟩, 26), (⟨"TakeoffSheetModel", "isRate", "(I)Z"⟩, 26), (⟨"TakeoffSheetModel", "cents", "(I)I"⟩, 26), (⟨"TakeoffSheetModel", "isItem", "(I)Z"⟩, 26), (⟨"TakeoffSheetModel", "isLeaf", "(I)Z"⟩, 26), (⟨"TakeoffSheetModel", "isHeading", "(I)Z"⟩, 26), (⟨"TakeoffSheetModel", "adds", "(III)I"⟩, 26), (⟨"TakeoffSheetModel", "quantities", "(I)I"⟩, 26), (⟨"TakeoffSheetModel", "fills", "()V"⟩, 26), (⟨"TakeoffSheetModel", "isBelow", "(II)Z"⟩, 26), (⟨"TakeoffSheetModel", "worthNow", "()J"⟩, 26), (⟨"TakeoffSheetModel", "dueNow", "()J"⟩, 26)]
theorem lw_r2 : ∀ q ∈ lw_privs_2, lw_okq q := List.forall_mem_cons.mpr ⟨lw_p16, List.forall_mem_cons.mpr ⟨lw_p17, List.forall_mem_cons.mpr ⟨lw_p18, List.forall_mem_cons.mpr ⟨lw_p19, List.forall_mem_cons.mpr ⟨lw_p20, List.forall_mem_cons.mpr ⟨lw_p21, List.forall_mem_cons.mpr ⟨lw_p22, List.forall_mem_cons.mpr ⟨lw_p23, List.forall_mem_cons.mpr ⟨lw_p24, List.forall_mem_cons.mpr ⟨lw_p25, List.forall_mem_cons.mpr ⟨lw_p26, List.forall_mem_cons.mpr ⟨lw_p27, List.forall_mem_cons.mpr ⟨lw_p28, fun _ h => absurd h List.not_mem_nil⟩⟩⟩⟩⟩⟩⟩⟩⟩⟩⟩⟩⟩
def lw_privs : List (MethodName × Nat) := lw_privs_1 ++ (lw_privs_2)
def lw_tbl : List Cond := k2_sels lw_privs ++ tables_1
theorem lw_privs_ok : ∀ q ∈ lw_privs, lw_okq q := by
  show ∀ q ∈ lw_privs_1 ++ (lw_privs_2), lw_okq q
  exact List.forall_mem_append.mpr ⟨lw_r1, lw_r2⟩
-- ===== end of PART A; then your names; then what follows =====
end
section
/-! ===== BEGIN words of one list among another's, by their places ===== -/
theorem goodIn_r {big : List Cond} (ws : List Cond) (ps : List Nat) (hp : ws = ps.filterMap (fun i => big[i]?)) (h : ws.all goodWord = true) : GoodIn big ws := by
  intro w hw
  have h1 := List.all_eq_true.mp h w hw
  rw [hp] at hw
  obtain ⟨i, -, hi⟩ := List.mem_filterMap.mp hw
  have hm : w ∈ big := by first | exact List.mem_of_getElem? hi | exact List.getElem?_mem hi
  exact ⟨hm, good_of_word h1⟩
theorem goodIn_app {big a b : List Cond} (ha : GoodIn big a) (hb : GoodIn big b) : GoodIn big (a ++ b) := fun w h => (List.mem_append.mp h).elim (ha w) (hb w)
theorem goodIn_ca {big a b : List Cond} {c : Cond} (ha : GoodIn big (c :: a)) (hb : GoodIn big b) : GoodIn big (c :: (a ++ b)) := fun w h => (List.mem_cons.mp h).elim (fun e => ha w (List.mem_cons.mpr (Or.inl e))) (fun h => (List.mem_append.mp h).elim (fun h => ha w (List.mem_cons.mpr (Or.inr h))) (hb w))
theorem goodIn_sub {big ws : List Cond} (hm : ∀ w ∈ ws, w ∈ big) (h : ws.all goodWord = true) : GoodIn big ws := fun w hw => ⟨hm w hw, good_of_word (List.all_eq_true.mp h w hw)⟩
/-! ===== END ===== -/

/-! ===== BEGIN exceptions that leave a method, and their catching by the caller (launches without stack traces) ===== -/
section VXA
/-! The laws vx_back, vx_callV, vx_callS, vx_callSW, vx_throw0, vx_throwS follow proofs of the library, with one case more: JvmDerived/Free/Laws.lean (Back.of_free), Shelf42/LK1.lean (callV, callS), Shelf/KitTraced.lean (throwNew0V, throwNewS). -/
/-- where a method has thrown q: the class by its name, the cell, what was written, the world -/
def vx_T (XC : String → State → State → Prop) (st : State) (q : Addr) (t : State) (mc ms : Nat) (free : Addr → Prop) : Prop :=
  ∃ (E : String) (ce : Cell) (L : List Loc), XC E st t ∧ t.heap[q]? = some ce ∧ ce.vm = .none ∧ st.vm.findClass E = some ce.cls ∧ st.WarmedH t.vm ∧ st.sameButNew ({ t with vm := st.vm } : State) L mc ms ∧ ∀ z ∈ L, free z.base
def vx_Q (Qc : Array Value → State → Outcome → State → Prop) (XC : String → State → State → Prop) (mc ms : Nat) (free : Addr → Prop) : Array Value → State → Outcome → State → Prop := fun a st o t =>
  (Qc a st o t ∧ ∃ L, FrameEnd st o t L mc ms ∧ ∀ q ∈ L, free q.base) ∨ ∃ q, o = .threw q ∧ vx_T XC st q t mc ms free
/-- a callee that returns or throws -/
def vx_Met (l : Launch) (y : MethodName) (ws : List Cond) (rm : Room) (Pc : Array Value → State → Prop) (Qc : Array Value → State → Outcome → State → Prop) (XC : String → State → State → Prop) (mc ms : Nat) (free : Addr → Prop) : Prop :=
  MetFree l y (headSpec ws rm) Pc (fun _ _ _ _ _ => True) (vx_Q Qc XC mc ms free)
def vx_Post (XC : String → State → State → Prop) (mc ms : Nat) (free : Addr → Prop) : Pt → Array Value → Addr → Pt → Prop := fun A a q B =>
  ∃ (g : JFrame) (mk : MethodId) (t : State) (L : List Loc) (E : String) (ce : Cell), B.U.heap = t.heap ∧ B.U.vm = t.vm ∧ XC E (A.U.calling g mk a) t ∧ t.heap[q]? = some ce ∧ ce.vm = .none ∧ A.U.vm.findClass E = some ce.cls ∧ B.locs = A.locs ++ L ∧ (∀ z ∈ L, free z.base) ∧ B.cells = A.cells + mc ∧ B.slots = A.slots + ms
def vx_Back (l : Launch) (R : Room) (p : Program) (e : Env) (below : List Frame) (s : State) (sargs : Array Value) (y : MethodName) (len W9 : Nat)
    (Pre : Pt → Array Value → Prop) (Post : Pt → Array Value → Option Value → Pt → Prop) (PostX : Pt → Array Value → Addr → Pt → Prop) : Prop :=
  ∀ (m : MethodId) (meth : Method) (c : Code) (A : Pt) (g : JFrame) (ig : Instr) (mk : MethodId) (a : Array Value),
    Stand p l e R s m sargs below meth c A.U A.locs A.cells A.slots → g.method = m → g.locals.size = c.maxLocals → decode c.code g.pc = .ok (ig, len) →
    2 * g.monitorRoom + (g.stack.map fun v => v.category).sum ≤ W9 → A.U.methodNamed? y = some mk → Pre A a →
    (∃ (v : Option Value) (B : Pt), Stand p l e R s m sargs below meth c B.U B.locs B.cells B.slots ∧ Post A a v B ∧
      Steps p.tables e below (doInvoke e (A.U.setTop g) [] mk a).1 (B.U.setTop { g with pc := g.pc + len, stack := v.toList ++ g.stack })) ∨
    (∃ (q : Addr) (B : Pt), Stand p l e R s m sargs below meth c B.U B.locs B.cells B.slots ∧ PostX A a q B ∧
      Steps p.tables e below (doInvoke e (A.U.setTop g) [] mk a).1 ((B.U.setTop g).pushFrame (.throwing q)))
section Payer
variable {l : Launch} {R : Room} {p : Program} {e : Env} {below : List Frame} {s : State} {sargs : Array Value} {y : MethodName} {len W9 : Nat}
theorem vx_back {ws : List Cond} {rm : Room} {Pc : Array Value → State → Prop} {Qc : Array Value → State → Outcome → State → Prop} {XC : String → State → State → Prop} {mc ms : Nat} {free : Addr → Prop} {bytes : ByteArray} {maxL : Nat} {ret : Option FieldType}
    (hM : vx_Met l y ws rm Pc Qc XC mc ms free) (hblind : FrameBlind Pc) (hrc : rm.cells = mc) (hrs : rm.slots = ms)
    (hframes : rm.frames + 1 ≤ R.frames) (hlocals : W9 + (maxL + 11) + rm.locals ≤ R.locals)
    (hws : ∀ w ∈ ws, ∀ a' U, s.WarmedH U.vm → w.before a' U = true) (hcode : Cond.code y bytes maxL ret ∈ ws) (hinit : ∀ a' U, s.WarmedH U.vm → (Cond.initialized y.cls).before a' U = true) :
    vx_Back l R p e below s sargs y len W9 (PreOf R mc ms Pc) (PostOf Qc mc ms free) (vx_Post XC mc ms free) := by
  intro m meth c A g ig mk a X hg hsize hdg hW hn hp
  have h1 : (headSpec ws rm).pre.before a A.U = true := atoms_intro fun w hw => hws w hw _ _ X.warmed
  have h2 : (Cond.code y bytes maxL ret).before a A.U = true := hws _ hcode _ _ X.warmed
  have h3 : (Cond.initialized y.cls).before a A.U = true := hinit _ _ X.warmed
  have h4 : A.cells + (headSpec ws rm).room.cells ≤ R.cells := by rw [show (headSpec ws rm).room.cells = mc from hrc]; exact hp.1
  have h5 : A.slots + (headSpec ws rm).room.slots ≤ R.slots := by rw [show (headSpec ws rm).room.slots = ms from hrs]; exact hp.2.1
  have hPc : Pc a (A.U.calling g mk a) := hblind _ _ _ _ hp.2.2
  obtain ⟨U, Ls, c0, s0⟩ := A
  dsimp only [Pt.U, Pt.locs, Pt.cells, Pt.slots] at h1 h2 h3 h4 h5 X hn hPc ⊢
  obtain ⟨methY, cY, hmY, hcY, -, hlY, -, -, -, -⟩ := Cond.code_spec hn h2
  obtain ⟨kY, hkY, -⟩ := className_of_methodNamed hn
  have hinitY : kY.init = .initialized := Cond.initialized_spec (findClass_of_methodNamed hn) hkY h3
  have h : At U g.method c below := by rw [hg]; exact X.here
  have hlocals9 : W9 + (maxL + 11) + (headSpec ws rm).room.locals ≤ R.locals := hlocals
  have happ : (headSpec ws rm).appliesLoose y e.platform (U.calling g mk a) = true :=
    Spec.appliesLoose_calling (g := g) h hdg hn hkY hinitY
      (X.room_calling (g := g) (R' := (headSpec ws rm).room) hsize hmY hcY hframes (by rw [hlY]; omega) h4 h5) h1
  obtain ⟨mid, hmid⟩ := h.above
  have hfr : (U.setTop g).frames = (.java g :: mid) ++ below := by rw [State.frames_setTop' g h.top, hmid]; rfl
  obtain ⟨o, s₂, hsteps, -, hend, hq⟩ := Steps.callFree hM p X.admits X.cas X.clock (acts := []) hfr happ hPc trivial
  have hq' : vx_Q Qc XC mc ms free a (U.calling g mk a) o s₂ := hq
  rw [State.frames_setTop' g h.top] at hend
  obtain ⟨g₀, hg0⟩ := Option.isSome_iff_exists.mp h.top
  obtain ⟨r, hr⟩ := State.topJava?_eq_some.mp hg0
  have hr' : (({ U with heap := s₂.heap, slotsUsed := s₂.slotsUsed } : State).setVm s₂.vm).frames = .java g₀ :: r := hr
  rcases hq' with ⟨hqc, L, hfe, hL⟩ | ⟨q, rfl, E, ce, L, hx, hce, hcv, hcl, hW₂, hsm, hL⟩
  · obtain ⟨⟨v, rfl⟩, hW₂, e2, q2, q3, q4, q5, q6⟩ := id hfe
    have e3 : s₂ = ({ (U.calling g mk a).setFrames s₂.frames with heap := s₂.heap, slotsUsed := s₂.slotsUsed } : State).setVm s₂.vm := by
      have : s₂ = ({ s₂ with vm := (U.calling g mk a).vm } : State).setVm s₂.vm := rfl
      rw [e2] at this
      exact this
    obtain ⟨c₂, i₂, len₂, hc₂, hd₂, hf₂⟩ := hend
    have hW' : U.WarmedH s₂.vm := hW₂
    have hcc : c₂ = c := by
      have h1 : s₂.code? g.method = U.code? g.method := by
        rw [State.code?_eq, State.code?_eq, hW'.alike.method?]
      exact Option.some.inj (hc₂.symm.trans (h1.trans h.code))
    subst hcc
    have hlen : len₂ = len := by rw [hdg] at hd₂; cases hd₂; rfl
    subst hlen
    have hs₂ : s₂ = (({ U with heap := s₂.heap, slotsUsed := s₂.slotsUsed } : State).setVm s₂.vm).setTop { g with pc := g.pc + len₂, stack := v.toList ++ g.stack } := by
      refine e3.trans ?_
      rw [hf₂, State.calling_eq h.top, State.setFrames_setFrames, State.setTop_of_frames _ hr', hr]
      rfl
    have hsame : U.sameButNew ({ U with heap := s₂.heap, slotsUsed := s₂.slotsUsed } : State) L mc ms := by
      refine ⟨?_, q2, q3, q4, q5, q6⟩
      obtain ⟨t, ht, -⟩ := State.frames_cons hr
      show ({ U with heap := s₂.heap, slotsUsed := s₂.slotsUsed } : State) = { U.setFrames U.frames with heap := s₂.heap, slotsUsed := s₂.slotsUsed }
      rw [State.setFrames_self ht]
    subst hg
    refine Or.inl ⟨v, ⟨(({ U with heap := s₂.heap, slotsUsed := s₂.slotsUsed } : State).setVm s₂.vm), Ls ++ L, c0 + mc, s0 + ms⟩,
      ⟨X.admits, X.cas, X.clock, X.frames, X.room, X.hears, X.method, X.code, (X.here.setHeapUsed s₂.heap s₂.slotsUsed).setVm hW'.alike, X.tail, State.WarmedH.trans X.warmed hW', X.limits, X.bytes, X.same.trans (hsame.setVm s.vm)⟩,
      ⟨g, mk, s₂, L, rfl, rfl, hqc, rfl, hL, rfl, rfl⟩, ?_⟩
    show Steps p.tables e below _ ((({ U with heap := s₂.heap, slotsUsed := s₂.slotsUsed } : State).setVm s₂.vm).setTop { g with pc := g.pc + len₂, stack := v.toList ++ g.stack })
    rw [← hs₂]
    exact hsteps
  · obtain ⟨e2, q2, q3, q4, q5, q6⟩ := id hsm
    have e3 : s₂ = ({ (U.calling g mk a).setFrames s₂.frames with heap := s₂.heap, slotsUsed := s₂.slotsUsed } : State).setVm s₂.vm := by
      have : s₂ = ({ s₂ with vm := (U.calling g mk a).vm } : State).setVm s₂.vm := rfl
      rw [e2] at this
      exact this
    have hf₂ : s₂.frames = .throwing q :: .java g :: U.frames.tail := hend
    have hW' : U.WarmedH s₂.vm := hW₂
    have hs₂ : s₂ = ((({ U with heap := s₂.heap, slotsUsed := s₂.slotsUsed } : State).setVm s₂.vm).setTop g).pushFrame (.throwing q) := by
      refine e3.trans ?_
      rw [hf₂, State.calling_eq h.top, State.setFrames_setFrames, State.pushFrame, State.frames_setTop _ hr', State.setTop_of_frames _ hr', State.setFrames_setFrames, hr]
      rfl
    have hsame : U.sameButNew ({ U with heap := s₂.heap, slotsUsed := s₂.slotsUsed } : State) L mc ms := by
      refine ⟨?_, q2, q3, q4, q5, q6⟩
      obtain ⟨t, ht, -⟩ := State.frames_cons hr
      show ({ U with heap := s₂.heap, slotsUsed := s₂.slotsUsed } : State) = { U.setFrames U.frames with heap := s₂.heap, slotsUsed := s₂.slotsUsed }
      rw [State.setFrames_self ht]
    subst hg
    refine Or.inr ⟨q, ⟨(({ U with heap := s₂.heap, slotsUsed := s₂.slotsUsed } : State).setVm s₂.vm), Ls ++ L, c0 + mc, s0 + ms⟩,
      ⟨X.admits, X.cas, X.clock, X.frames, X.room, X.hears, X.method, X.code, (X.here.setHeapUsed s₂.heap s₂.slotsUsed).setVm hW'.alike, X.tail, State.WarmedH.trans X.warmed hW', X.limits, X.bytes, X.same.trans (hsame.setVm s.vm)⟩,
      ⟨g, mk, s₂, L, E, ce, rfl, rfl, hx, hce, hcv, hcl, rfl, hL, rfl, rfl⟩, ?_⟩
    show Steps p.tables e below _ (((({ U with heap := s₂.heap, slotsUsed := s₂.slotsUsed } : State).setVm s₂.vm).setTop g).pushFrame (.throwing q))
    rw [← hs₂]
    exact hsteps
end Payer
section Calls
variable {p : Program} {l : Launch} {e : Env} {R : Room} {s : State} {m : MethodId} {args : Array Value} {below : List Frame} {meth : Method} {c : Code} {T : State} {locs : List Loc} {cells slots : Nat}
theorem vx_callV (X : Stand p l e R s m args below meth c T locs cells slots) (hexec : p.tables.exec = Jvm.exec) {own C : String} {index : Nat} {y : MethodName} {bytes : ByteArray} {maxL : Nat} {ret : Option FieldType}
    (hown : s.vm.findClass own = some m.cls) (hlink : (Cond.methodLink own index y).before args s = true) (hinst : (Cond.instanceMethod y).before args s = true) (hsel : (Cond.selects C y y).before args s = true)
    (hcode : (Cond.code y bytes maxL ret).before args s = true) (hy : y.cls ≠ "java/lang/invoke/MethodHandle" ∧ y.cls ≠ "java/lang/invoke/VarHandle")
    {W9 : Nat} {Pre : Pt → Array Value → Prop} {Post : Pt → Array Value → Option Value → Pt → Prop} {PostX : Pt → Array Value → Addr → Pt → Prop} (hK : vx_Back l R p e below s args y 3 W9 Pre Post PostX)
    {b : Addr} {cellB : Cell} (hcell : T.heap[b]? = some cellB) (hobj : cellB.vm.isStatics = false) (hcls : s.vm.findClass C = some cellB.cls)
    {g : JFrame} (hg : g.method = m) (hsize : g.locals.size = c.maxLocals) {argsL rest : List Value} (hlen : ∀ sig, parseMethodDescriptor y.desc = some sig → argsL.length = sig.parameters.length)
    (hstack : g.stack = argsL.reverse ++ .ref b :: rest) (hW : 2 * g.monitorRoom + (rest.map fun v => v.category).sum ≤ W9) (hdg : decode c.code g.pc = .ok (.invokevirtual index, 3))
    (hpre : ∀ vm₁, s.WarmedH vm₁ → Pre ⟨T.setVm vm₁, locs, cells, slots⟩ (Value.ref b :: argsL).toArray) :
    (∃ (v : Option Value) (vm₁ : Vm) (B : Pt), s.WarmedH vm₁ ∧ Stand p l e R s m args below meth c B.U B.locs B.cells B.slots ∧ Post ⟨T.setVm vm₁, locs, cells, slots⟩ (Value.ref b :: argsL).toArray v B ∧
      ∀ target, Steps p.tables e below (B.U.setTop { g with pc := g.pc + 3, stack := v.toList ++ rest }) target → Steps p.tables e below (T.setTop g) target) ∨
    (∃ (q : Addr) (vm₁ : Vm) (B : Pt), s.WarmedH vm₁ ∧ Stand p l e R s m args below meth c B.U B.locs B.cells B.slots ∧ PostX ⟨T.setVm vm₁, locs, cells, slots⟩ (Value.ref b :: argsL).toArray q B ∧
      Steps p.tables e below (T.setTop g) ((B.U.setTop { g with stack := rest }).pushFrame (.throwing q))) := by
  obtain ⟨mk, methM, hnamed, hmethM, hstM, habM⟩ := Cond.instanceMethod_spec hinst
  obtain ⟨methM', cM, hmethM', -, -, -, -, -, -, hsigM⟩ := Cond.code_spec hnamed hcode
  cases hmethM.symm.trans hmethM'
  obtain ⟨c2, r2, m2, q1, q2, q3, q4, kP, hkP, hkPi⟩ := Cond.selects_spec hsel
  cases hcls.symm.trans q1
  cases (State.methodFound?_of_named hnamed hy).symm.trans q2
  cases hnamed.symm.trans q3
  have hselP : selectMethod e.platform s.vm cellB.cls mk = .method mk := by rw [Launch.admits_selectMethod X.admits]; exact q4
  obtain ⟨vm₁, X₁, hstep₁⟩ := X.invokevirtual hexec hown hlink hnamed hmethM hstM hkP hkPi hy (a := b) (cell := cellB) hcell
    (fun z h => by rw [h] at hobj; cases hobj) hselP hmethM habM hkP hkPi (g := g) hg (argsL := argsL) (rest := rest) (hlen _ hsigM) hstack hdg
  rcases hK m meth c ⟨T.setVm vm₁, locs, cells, slots⟩ { g with stack := rest } (.invokevirtual index) mk (Value.ref b :: argsL).toArray X₁ hg hsize hdg hW (X₁.named hnamed) (hpre vm₁ X₁.warmed) with ⟨v, B, X', hpost, hsteps⟩ | ⟨q, B, X', hpost, hsteps⟩
  · exact Or.inl ⟨v, vm₁, B, X₁.warmed, X', hpost, fun target h => hstep₁ _ fun acts => by rw [doInvoke_state]; exact hsteps.trans h⟩
  · exact Or.inr ⟨q, vm₁, B, X₁.warmed, X', hpost, hstep₁ _ fun acts => by rw [doInvoke_state]; exact hsteps⟩
theorem vx_callS (X : Stand p l e R s m args below meth c T locs cells slots) (hexec : p.tables.exec = Jvm.exec) {own : String} {index : Nat} {y : MethodName} {bytes : ByteArray} {maxL : Nat} {ret : Option FieldType}
    (hown : s.vm.findClass own = some m.cls) (hlink : (Cond.methodLink own index y).before args s = true) (hstat : (Cond.static y).before args s = true) (hinit : (Cond.initialized y.cls).before args s = true)
    (hcode : (Cond.code y bytes maxL ret).before args s = true) (hy : y.cls ≠ "java/lang/invoke/MethodHandle" ∧ y.cls ≠ "java/lang/invoke/VarHandle")
    {W9 : Nat} {Pre : Pt → Array Value → Prop} {Post : Pt → Array Value → Option Value → Pt → Prop} {PostX : Pt → Array Value → Addr → Pt → Prop} (hK : vx_Back l R p e below s args y 3 W9 Pre Post PostX)
    {g : JFrame} (hg : g.method = m) (hsize : g.locals.size = c.maxLocals) {argsL rest : List Value} (hlen : ∀ sig, parseMethodDescriptor y.desc = some sig → argsL.length = sig.parameters.length)
    (hstack : g.stack = argsL.reverse ++ rest) (hW : 2 * g.monitorRoom + (rest.map fun v => v.category).sum ≤ W9) (hdg : decode c.code g.pc = .ok (.invokestatic index, 3))
    (hpre : ∀ vm₁, s.WarmedH vm₁ → Pre ⟨T.setVm vm₁, locs, cells, slots⟩ argsL.toArray) :
    (∃ (v : Option Value) (vm₁ : Vm) (B : Pt), s.WarmedH vm₁ ∧ Stand p l e R s m args below meth c B.U B.locs B.cells B.slots ∧ Post ⟨T.setVm vm₁, locs, cells, slots⟩ argsL.toArray v B ∧
      ∀ target, Steps p.tables e below (B.U.setTop { g with pc := g.pc + 3, stack := v.toList ++ rest }) target → Steps p.tables e below (T.setTop g) target) ∨
    (∃ (q : Addr) (vm₁ : Vm) (B : Pt), s.WarmedH vm₁ ∧ Stand p l e R s m args below meth c B.U B.locs B.cells B.slots ∧ PostX ⟨T.setVm vm₁, locs, cells, slots⟩ argsL.toArray q B ∧
      Steps p.tables e below (T.setTop g) ((B.U.setTop { g with stack := rest }).pushFrame (.throwing q))) := by
  obtain ⟨mk, hnamed⟩ := Cond.code_named hcode
  obtain ⟨methM, cM, hmethM, -, -, -, -, -, -, hsigM⟩ := Cond.code_spec hnamed hcode
  have hstatic : methM.isStatic = true := Cond.static_spec hnamed hmethM hstat
  obtain ⟨kP, hkP, -⟩ := className_of_methodNamed hnamed
  have hinitP : kP.init = .initialized := Cond.initialized_spec (findClass_of_methodNamed hnamed) hkP hinit
  obtain ⟨vm₁, X₁, hstep₁⟩ := X.invokestatic hexec hown hlink hnamed hmethM hstatic hkP hinitP hy (g := g) hg (argsL := argsL) (rest := rest) (hlen _ hsigM) hstack hdg
  rcases hK m meth c ⟨T.setVm vm₁, locs, cells, slots⟩ { g with stack := rest } (.invokestatic index) mk argsL.toArray X₁ hg hsize hdg hW (X₁.named hnamed) (hpre vm₁ X₁.warmed) with ⟨v, B, X', hpost, hsteps⟩ | ⟨q, B, X', hpost, hsteps⟩
  · exact Or.inl ⟨v, vm₁, B, X₁.warmed, X', hpost, fun target h => hstep₁ _ fun acts => by rw [doInvoke_state]; exact hsteps.trans h⟩
  · exact Or.inr ⟨q, vm₁, B, X₁.warmed, X', hpost, hstep₁ _ fun acts => by rw [doInvoke_state]; exact hsteps⟩
end Calls
theorem vx_cls {s : State} {T : State} {vm₁ : Vm} {E : String} {k : ClassId} (hW : s.WarmedH vm₁) (h : (T.setVm vm₁).vm.findClass E = some k) : s.vm.findClass E = some k := by
  have h1 : vm₁.findClass E = some k := h
  rw [hW.alike.findClass] at h1
  exact h1
/-- the method's frame g, with q thrown over it -/
def vx_W (p : Program) (l : Launch) (e : Env) (R : Room) (s : State) (m : MethodId) (args : Array Value) (below : List Frame) (meth : Method) (c : Code) (H : Heap) (locs : List Loc) (cells slots : Nat) (Q : State → Prop) (g : JFrame) (q : Addr) : Prop :=
  ∀ T : State, T.heap = H → Stand p l e R s m args below meth c T locs cells slots → ∃ t, Steps p.tables e below ((T.setTop g).pushFrame (.throwing q)) t ∧ Q t
def vx_Run (p : Program) (l : Launch) (e : Env) (R : Room) (s : State) (m : MethodId) (args : Array Value) (below : List Frame) (meth : Method) (c : Code) (H : Heap) (locs : List Loc) (cells slots mc ms : Nat) (g : JFrame) (rest : List Value) (Qa : State → Outcome → State → Prop) (XC : String → State → State → Prop) (free : Addr → Prop) : Prop :=
  ∀ T : State, T.heap = H → Stand p l e R s m args below meth c T locs cells slots →
    (∃ (v : Option Value) (st₀ t T' : State) (L : List Loc), st₀.heap = H ∧ Stand p l e R s m args below meth c T' (locs ++ L) (cells + mc) (slots + ms) ∧ (∀ q ∈ L, free q.base) ∧ T'.heap = t.heap ∧ T'.vm = t.vm ∧ Qa st₀ (.returned v) t ∧
      Goes p e below T g T' { g with pc := g.pc + 3, stack := v.toList ++ rest }) ∨
    (∃ (q : Addr) (st₀ t T' : State) (L : List Loc) (E : String) (ce : Cell), st₀.heap = H ∧ Stand p l e R s m args below meth c T' (locs ++ L) (cells + mc) (slots + ms) ∧ (∀ z ∈ L, free z.base) ∧ T'.heap = t.heap ∧ T'.vm = t.vm ∧ XC E st₀ t ∧ t.heap[q]? = some ce ∧ ce.vm = .none ∧ s.vm.findClass E = some ce.cls ∧
      Steps p.tables e below (T.setTop g) ((T'.setTop { g with stack := rest }).pushFrame (.throwing q)))
def vx_X {S : Type} (px : S → Prop) (B : String → S → State → Prop) (A : Nat → Prop) : String → State → State → Prop := fun E st t => ∃ u : S, px u ∧ B E u t ∧ va_F A st t
section Runs
variable {p : Program} {l : Launch} {e : Env} {R : Room} {s : State} {m : MethodId} {args : Array Value} {below : List Frame} {meth : Method} {c : Code} {H : Heap} {locs : List Loc} {cells slots : Nat}
variable {y : MethodName} {bytes cc : ByteArray} {maxL nL mc ms n index : Nat} {ret : Option FieldType} {ws : List Cond} {rm : Room} {Pc : Array Value → State → Prop} {Qc : Array Value → State → Outcome → State → Prop} {XC : String → State → State → Prop} {free : Addr → Prop} {Ts : List Cond} {own C : String} {b : Addr} {As rest : List Value} {g : JFrame}
theorem vx_callBack (cb : CallB R s args own index y bytes maxL ret ws rm mc ms n) (hM : vx_Met l y ws rm Pc Qc XC mc ms free) (hbl : FrameBlind Pc) : vx_Back l R p e below s args y 3 8 (PreOf R mc ms Pc) (PostOf Qc mc ms free) (vx_Post XC mc ms free) := by
  obtain ⟨hrc, hrs, hfr, hlo, hws, hcw, -, hini, -⟩ := cb
  exact vx_back (bytes := bytes) (maxL := maxL) (ret := ret) hM hbl hrc hrs hfr hlo hws hcw (fun a' U hW => word_at hW (Or.inl (by first | rfl | simp [Cond.onTables, Cond.keeps, Cond.steady])) hini)
theorem vx_runV (S : CallFix p m c cc nL s args Ts own) (hM : vx_Met l y ws rm Pc Qc XC mc ms free) (cw : CallW R s args own C index y bytes maxL ret ws rm mc ms n) (hp : PreV s H C b Pc As)
    (hg : g.method = m) (hn : As.length = n) (hsize : g.locals.size = nL) (hstack : g.stack = As.reverse ++ .ref b :: rest) (hW : 2 * g.monitorRoom + (rest.map fun v => v.category).sum ≤ 8) (hdg : decode cc g.pc = .ok (.invokevirtual index, 3)) (hf : cells + mc ≤ R.cells ∧ slots + ms ≤ R.slots) :
    vx_Run p l e R s m args below meth c H locs cells slots mc ms g rest (Qc (Value.ref b :: As).toArray) XC free := by
  have hK : vx_Back l R p e below s args y 3 8 (PreOf R mc ms Pc) (PostOf Qc mc ms free) (vx_Post XC mc ms free) := vx_callBack cw.1 hM hp.1
  obtain ⟨⟨-, -, -, -, -, -, hcode, -, hy, hlen, hl⟩, hin, hse⟩ := cw
  obtain ⟨hx, hb, hml, ho, -⟩ := S
  obtain ⟨-, ⟨cellB, hcB, hoB, hclB⟩, hPc⟩ := hp
  intro T hT X
  rcases vx_callV X hx (C := C) (bytes := bytes) (maxL := maxL) (ret := ret) ho hl hin hse hcode hy hK (by rw [hT]; exact hcB) hoB hclB hg (hsize.trans hml.symm) (argsL := As) (rest := rest) (fun sig h => hn.trans (hlen sig h)) hstack hW (by rw [hb]; exact hdg)
    (fun vm₁ hW₁ => ⟨hf.1, hf.2, hPc (T.setVm vm₁) hT hW₁⟩) with ⟨v, vm₁, ⟨U', l2, c2, s2⟩, hW₁, X', ⟨g', mk, t, L, e1, e2, hq, h1, hL, h2, h3⟩, st⟩ | ⟨q, vm₁, ⟨U', l2, c2, s2⟩, hW₁, X', ⟨g', mk, t, L, E, ce, e1, e2, hq, hce, hcv, hcl, h1, hL, h2, h3⟩, st⟩
  · dsimp only [Pt.U, Pt.locs, Pt.cells, Pt.slots] at X' e1 e2 h1 h2 h3 st
    subst h1; subst h2; subst h3
    exact Or.inl ⟨v, (T.setVm vm₁).calling g' mk (Value.ref b :: As).toArray, t, U', L, hT, X', hL, e1, e2, hq, st⟩
  · dsimp only [Pt.U, Pt.locs, Pt.cells, Pt.slots] at X' e1 e2 h1 h2 h3 st hcl
    subst h1; subst h2; subst h3
    exact Or.inr ⟨q, (T.setVm vm₁).calling g' mk (Value.ref b :: As).toArray, t, U', L, E, ce, hT, X', hL, e1, e2, hq, hce, hcv, vx_cls hW₁ hcl, st⟩
theorem vx_runS (S : CallFix p m c cc nL s args Ts own) (hM : vx_Met l y ws rm Pc Qc XC mc ms free) (cw : CallB R s args own index y bytes maxL ret ws rm mc ms n ∧ (Cond.static y).before args s = true) (hp : PreS s H Pc As)
    (hg : g.method = m) (hn : As.length = n) (hsize : g.locals.size = nL) (hstack : g.stack = As.reverse ++ rest) (hW : 2 * g.monitorRoom + (rest.map fun v => v.category).sum ≤ 8) (hdg : decode cc g.pc = .ok (.invokestatic index, 3)) (hf : cells + mc ≤ R.cells ∧ slots + ms ≤ R.slots) :
    vx_Run p l e R s m args below meth c H locs cells slots mc ms g rest (Qc As.toArray) XC free := by
  have hK : vx_Back l R p e below s args y 3 8 (PreOf R mc ms Pc) (PostOf Qc mc ms free) (vx_Post XC mc ms free) := vx_callBack cw.1 hM hp.1
  obtain ⟨⟨-, -, -, -, -, -, hcode, hini, hy, hlen, hl⟩, hstt⟩ := cw
  obtain ⟨hx, hb, hml, ho, -⟩ := S
  intro T hT X
  rcases vx_callS X hx (bytes := bytes) (maxL := maxL) (ret := ret) ho hl hstt hini hcode hy hK hg (hsize.trans hml.symm) (argsL := As) (rest := rest) (fun sig h => hn.trans (hlen sig h)) hstack hW (by rw [hb]; exact hdg)
    (fun vm₁ hW₁ => ⟨hf.1, hf.2, hp.2 (T.setVm vm₁) hT hW₁⟩) with ⟨v, vm₁, ⟨U', l2, c2, s2⟩, hW₁, X', ⟨g', mk, t, L, e1, e2, hq, h1, hL, h2, h3⟩, st⟩ | ⟨q, vm₁, ⟨U', l2, c2, s2⟩, hW₁, X', ⟨g', mk, t, L, E, ce, e1, e2, hq, hce, hcv, hcl, h1, hL, h2, h3⟩, st⟩
  · dsimp only [Pt.U, Pt.locs, Pt.cells, Pt.slots] at X' e1 e2 h1 h2 h3 st
    subst h1; subst h2; subst h3
    exact Or.inl ⟨v, (T.setVm vm₁).calling g' mk As.toArray, t, U', L, hT, X', hL, e1, e2, hq, st⟩
  · dsimp only [Pt.U, Pt.locs, Pt.cells, Pt.slots] at X' e1 e2 h1 h2 h3 st hcl
    subst h1; subst h2; subst h3
    exact Or.inr ⟨q, (T.setVm vm₁).calling g' mk As.toArray, t, U', L, E, ce, hT, X', hL, e1, e2, hq, hce, hcv, vx_cls hW₁ hcl, st⟩
end Runs
section Rows
variable {p : Program} {l : Launch} {e : Env} {R : Room} {s : State} {m : MethodId} {args : Array Value} {below : List Frame} {meth : Method} {c : Code} {H : Heap} {locs : List Loc} {cells slots : Nat} {Q : State → Prop}
variable {mc ms : Nat} {free : Addr → Prop} {A0 A1 : Nat → Prop} {H0 : Heap} {a : Array Value} {pc : Nat} {ls : Array Slot} {st0 rest : List Value}
theorem vx_keep {st₀ t T' : State} {L : List Loc} (h0 : st₀.heap = H) (e1 : T'.heap = t.heap) (hS : va_S A0 H0 H locs) (hA : ∀ q, q < H.size → A1 q → A0 q) (hf : ∀ q, free q → A0 q) (hL : ∀ q ∈ L, free q.base) (hF : va_F A1 st₀ t) :
    H.size ≤ T'.heap.size ∧ (∀ q : Nat, q < H.size → ¬ A1 q → T'.heap[q]? = H[q]?) ∧ va_S A0 H0 T'.heap (locs ++ L) := by
  obtain ⟨hz, hk⟩ := hF
  rw [h0] at hz hk
  exact ⟨by rw [e1]; exact hz, fun q h1 h2 => by rw [e1]; exact hk q h1 h2,
    ⟨Nat.le_trans hS.1 (by rw [e1]; exact hz), fun q h1 h2 => by rw [e1, hk q (Nat.lt_of_lt_of_le h1 hS.1) (fun z => h2 (hA q (Nat.lt_of_lt_of_le h1 hS.1) z))]; exact hS.2.1 q h1 h2, fun q hq => by
      rcases List.mem_append.mp hq with h | h
      · exact hS.2.2 q h
      · exact hf _ (hL q h)⟩⟩
theorem vx_calli {S SX : Type} {post : Int32 → S → Prop} {px : SX → Prop} {B : S → State → Prop} {BX : String → SX → State → Prop} {AX : Nat → Prop} (hr : vx_Run p l e R s m args below meth c H locs cells slots mc ms (F0 m pc ls st0) rest (va_Qi post B A1 a) (vx_X px BX AX) free) (hS : va_S A0 H0 H locs) (hA : ∀ q, q < H.size → A1 q → A0 q) (hf : ∀ q, free q → A0 q) (hAX : ∀ q, q < H.size → AX q → A0 q)
    (kx : ∀ (E : String) (ce : Cell) (q9 : Addr) (u : SX) (t : State) (H1 : Heap) (locs1 : List Loc), t.heap = H1 → s.vm.Alike t.vm → px u → BX E u t → H.size ≤ H1.size → (∀ q : Nat, q < H.size → ¬ AX q → H1[q]? = H[q]?) → va_S A0 H0 H1 locs1 → H1[q9]? = some ce → ce.vm = .none → s.vm.findClass E = some ce.cls → vx_W p l e R s m args below meth c H1 locs1 (cells + mc) (slots + ms) Q (F0 m pc ls rest) q9)
    (kk : ∀ (r : Int32) (u : S) (t : State) (H1 : Heap) (locs1 : List Loc), t.heap = H1 → s.vm.Alike t.vm → post r u → B u t → H.size ≤ H1.size → (∀ q : Nat, q < H.size → ¬ A1 q → H1[q]? = H[q]?) → va_S A0 H0 H1 locs1 → W p l e R s m args below meth c H1 locs1 (cells + mc) (slots + ms) Q (F0 m (pc + 3) ls (.int r :: rest))) : W p l e R s m args below meth c H locs cells slots Q (F0 m pc ls st0) := by
  intro T hT X
  rcases hr T hT X with ⟨v, st₀, t, T', L, h0, X', hL, e1, e2, ⟨⟨r, u, hv, hp, hb⟩, hF⟩, st⟩ | ⟨q, st₀, t, T', L, E, ce, h0, X', hL, e1, e2, ⟨u, hp, hb, hF⟩, hce, hcv, hcl, st⟩
  · cases hv
    obtain ⟨k1, k2, k3⟩ := vx_keep h0 e1 hS hA hf hL hF
    obtain ⟨t2, a1, b1⟩ := kk r u t T'.heap (locs ++ L) e1.symm (by rw [← e2]; exact X'.warmed.alike) hp hb k1 k2 k3 T' rfl X'
    exact ⟨t2, st t2 a1, b1⟩
  · obtain ⟨k1, k2, k3⟩ := vx_keep h0 e1 hS hAX hf hL hF
    obtain ⟨t2, a1, b1⟩ := kx E ce q u t T'.heap (locs ++ L) e1.symm (by rw [← e2]; exact X'.warmed.alike) hp hb k1 k2 k3 (by rw [e1]; exact hce) hcv hcl T' rfl X'
    exact ⟨t2, st.trans a1, b1⟩
theorem vx_calll {S SX : Type} {post : Int64 → S → Prop} {px : SX → Prop} {B : S → State → Prop} {BX : String → SX → State → Prop} {AX : Nat → Prop} (hr : vx_Run p l e R s m args below meth c H locs cells slots mc ms (F0 m pc ls st0) rest (va_Ql post B A1 a) (vx_X px BX AX) free) (hS : va_S A0 H0 H locs) (hA : ∀ q, q < H.size → A1 q → A0 q) (hf : ∀ q, free q → A0 q) (hAX : ∀ q, q < H.size → AX q → A0 q)
    (kx : ∀ (E : String) (ce : Cell) (q9 : Addr) (u : SX) (t : State) (H1 : Heap) (locs1 : List Loc), t.heap = H1 → s.vm.Alike t.vm → px u → BX E u t → H.size ≤ H1.size → (∀ q : Nat, q < H.size → ¬ AX q → H1[q]? = H[q]?) → va_S A0 H0 H1 locs1 → H1[q9]? = some ce → ce.vm = .none → s.vm.findClass E = some ce.cls → vx_W p l e R s m args below meth c H1 locs1 (cells + mc) (slots + ms) Q (F0 m pc ls rest) q9)
    (kk : ∀ (r : Int64) (u : S) (t : State) (H1 : Heap) (locs1 : List Loc), t.heap = H1 → s.vm.Alike t.vm → post r u → B u t → H.size ≤ H1.size → (∀ q : Nat, q < H.size → ¬ A1 q → H1[q]? = H[q]?) → va_S A0 H0 H1 locs1 → W p l e R s m args below meth c H1 locs1 (cells + mc) (slots + ms) Q (F0 m (pc + 3) ls (.long r :: rest))) : W p l e R s m args below meth c H locs cells slots Q (F0 m pc ls st0) := by
  intro T hT X
  rcases hr T hT X with ⟨v, st₀, t, T', L, h0, X', hL, e1, e2, ⟨⟨r, u, hv, hp, hb⟩, hF⟩, st⟩ | ⟨q, st₀, t, T', L, E, ce, h0, X', hL, e1, e2, ⟨u, hp, hb, hF⟩, hce, hcv, hcl, st⟩
  · cases hv
    obtain ⟨k1, k2, k3⟩ := vx_keep h0 e1 hS hA hf hL hF
    obtain ⟨t2, a1, b1⟩ := kk r u t T'.heap (locs ++ L) e1.symm (by rw [← e2]; exact X'.warmed.alike) hp hb k1 k2 k3 T' rfl X'
    exact ⟨t2, st t2 a1, b1⟩
  · obtain ⟨k1, k2, k3⟩ := vx_keep h0 e1 hS hAX hf hL hF
    obtain ⟨t2, a1, b1⟩ := kx E ce q u t T'.heap (locs ++ L) e1.symm (by rw [← e2]; exact X'.warmed.alike) hp hb k1 k2 k3 (by rw [e1]; exact hce) hcv hcl T' rfl X'
    exact ⟨t2, st.trans a1, b1⟩
theorem vx_callf {S SX : Type} {post : UInt32 → S → Prop} {px : SX → Prop} {B : S → State → Prop} {BX : String → SX → State → Prop} {AX : Nat → Prop} (hr : vx_Run p l e R s m args below meth c H locs cells slots mc ms (F0 m pc ls st0) rest (va_Qf post B A1 a) (vx_X px BX AX) free) (hS : va_S A0 H0 H locs) (hA : ∀ q, q < H.size → A1 q → A0 q) (hf : ∀ q, free q → A0 q) (hAX : ∀ q, q < H.size → AX q → A0 q)
    (kx : ∀ (E : String) (ce : Cell) (q9 : Addr) (u : SX) (t : State) (H1 : Heap) (locs1 : List Loc), t.heap = H1 → s.vm.Alike t.vm → px u → BX E u t → H.size ≤ H1.size → (∀ q : Nat, q < H.size → ¬ AX q → H1[q]? = H[q]?) → va_S A0 H0 H1 locs1 → H1[q9]? = some ce → ce.vm = .none → s.vm.findClass E = some ce.cls → vx_W p l e R s m args below meth c H1 locs1 (cells + mc) (slots + ms) Q (F0 m pc ls rest) q9)
    (kk : ∀ (r : UInt32) (u : S) (t : State) (H1 : Heap) (locs1 : List Loc), t.heap = H1 → s.vm.Alike t.vm → post r u → B u t → H.size ≤ H1.size → (∀ q : Nat, q < H.size → ¬ A1 q → H1[q]? = H[q]?) → va_S A0 H0 H1 locs1 → W p l e R s m args below meth c H1 locs1 (cells + mc) (slots + ms) Q (F0 m (pc + 3) ls (.float r :: rest))) : W p l e R s m args below meth c H locs cells slots Q (F0 m pc ls st0) := by
  intro T hT X
  rcases hr T hT X with ⟨v, st₀, t, T', L, h0, X', hL, e1, e2, ⟨⟨r, u, hv, hp, hb⟩, hF⟩, st⟩ | ⟨q, st₀, t, T', L, E, ce, h0, X', hL, e1, e2, ⟨u, hp, hb, hF⟩, hce, hcv, hcl, st⟩
  · cases hv
    obtain ⟨k1, k2, k3⟩ := vx_keep h0 e1 hS hA hf hL hF
    obtain ⟨t2, a1, b1⟩ := kk r u t T'.heap (locs ++ L) e1.symm (by rw [← e2]; exact X'.warmed.alike) hp hb k1 k2 k3 T' rfl X'
    exact ⟨t2, st t2 a1, b1⟩
  · obtain ⟨k1, k2, k3⟩ := vx_keep h0 e1 hS hAX hf hL hF
    obtain ⟨t2, a1, b1⟩ := kx E ce q u t T'.heap (locs ++ L) e1.symm (by rw [← e2]; exact X'.warmed.alike) hp hb k1 k2 k3 (by rw [e1]; exact hce) hcv hcl T' rfl X'
    exact ⟨t2, st.trans a1, b1⟩
theorem vx_calld {S SX : Type} {post : UInt64 → S → Prop} {px : SX → Prop} {B : S → State → Prop} {BX : String → SX → State → Prop} {AX : Nat → Prop} (hr : vx_Run p l e R s m args below meth c H locs cells slots mc ms (F0 m pc ls st0) rest (va_Qd post B A1 a) (vx_X px BX AX) free) (hS : va_S A0 H0 H locs) (hA : ∀ q, q < H.size → A1 q → A0 q) (hf : ∀ q, free q → A0 q) (hAX : ∀ q, q < H.size → AX q → A0 q)
    (kx : ∀ (E : String) (ce : Cell) (q9 : Addr) (u : SX) (t : State) (H1 : Heap) (locs1 : List Loc), t.heap = H1 → s.vm.Alike t.vm → px u → BX E u t → H.size ≤ H1.size → (∀ q : Nat, q < H.size → ¬ AX q → H1[q]? = H[q]?) → va_S A0 H0 H1 locs1 → H1[q9]? = some ce → ce.vm = .none → s.vm.findClass E = some ce.cls → vx_W p l e R s m args below meth c H1 locs1 (cells + mc) (slots + ms) Q (F0 m pc ls rest) q9)
    (kk : ∀ (r : UInt64) (u : S) (t : State) (H1 : Heap) (locs1 : List Loc), t.heap = H1 → s.vm.Alike t.vm → post r u → B u t → H.size ≤ H1.size → (∀ q : Nat, q < H.size → ¬ A1 q → H1[q]? = H[q]?) → va_S A0 H0 H1 locs1 → W p l e R s m args below meth c H1 locs1 (cells + mc) (slots + ms) Q (F0 m (pc + 3) ls (.double r :: rest))) : W p l e R s m args below meth c H locs cells slots Q (F0 m pc ls st0) := by
  intro T hT X
  rcases hr T hT X with ⟨v, st₀, t, T', L, h0, X', hL, e1, e2, ⟨⟨r, u, hv, hp, hb⟩, hF⟩, st⟩ | ⟨q, st₀, t, T', L, E, ce, h0, X', hL, e1, e2, ⟨u, hp, hb, hF⟩, hce, hcv, hcl, st⟩
  · cases hv
    obtain ⟨k1, k2, k3⟩ := vx_keep h0 e1 hS hA hf hL hF
    obtain ⟨t2, a1, b1⟩ := kk r u t T'.heap (locs ++ L) e1.symm (by rw [← e2]; exact X'.warmed.alike) hp hb k1 k2 k3 T' rfl X'
    exact ⟨t2, st t2 a1, b1⟩
  · obtain ⟨k1, k2, k3⟩ := vx_keep h0 e1 hS hAX hf hL hF
    obtain ⟨t2, a1, b1⟩ := kx E ce q u t T'.heap (locs ++ L) e1.symm (by rw [← e2]; exact X'.warmed.alike) hp hb k1 k2 k3 (by rw [e1]; exact hce) hcv hcl T' rfl X'
    exact ⟨t2, st.trans a1, b1⟩
theorem vx_callv {S SX : Type} {post : S → Prop} {px : SX → Prop} {B : S → State → Prop} {BX : String → SX → State → Prop} {AX : Nat → Prop} (hr : vx_Run p l e R s m args below meth c H locs cells slots mc ms (F0 m pc ls st0) rest (va_Qv post B A1 a) (vx_X px BX AX) free) (hS : va_S A0 H0 H locs) (hA : ∀ q, q < H.size → A1 q → A0 q) (hf : ∀ q, free q → A0 q) (hAX : ∀ q, q < H.size → AX q → A0 q)
    (kx : ∀ (E : String) (ce : Cell) (q9 : Addr) (u : SX) (t : State) (H1 : Heap) (locs1 : List Loc), t.heap = H1 → s.vm.Alike t.vm → px u → BX E u t → H.size ≤ H1.size → (∀ q : Nat, q < H.size → ¬ AX q → H1[q]? = H[q]?) → va_S A0 H0 H1 locs1 → H1[q9]? = some ce → ce.vm = .none → s.vm.findClass E = some ce.cls → vx_W p l e R s m args below meth c H1 locs1 (cells + mc) (slots + ms) Q (F0 m pc ls rest) q9)
    (kk : ∀ (u : S) (t : State) (H1 : Heap) (locs1 : List Loc), t.heap = H1 → s.vm.Alike t.vm → post u → B u t → H.size ≤ H1.size → (∀ q : Nat, q < H.size → ¬ A1 q → H1[q]? = H[q]?) → va_S A0 H0 H1 locs1 → W p l e R s m args below meth c H1 locs1 (cells + mc) (slots + ms) Q (F0 m (pc + 3) ls (rest))) : W p l e R s m args below meth c H locs cells slots Q (F0 m pc ls st0) := by
  intro T hT X
  rcases hr T hT X with ⟨v, st₀, t, T', L, h0, X', hL, e1, e2, ⟨⟨u, hv, hp, hb⟩, hF⟩, st⟩ | ⟨q, st₀, t, T', L, E, ce, h0, X', hL, e1, e2, ⟨u, hp, hb, hF⟩, hce, hcv, hcl, st⟩
  · cases hv
    obtain ⟨k1, k2, k3⟩ := vx_keep h0 e1 hS hA hf hL hF
    obtain ⟨t2, a1, b1⟩ := kk u t T'.heap (locs ++ L) e1.symm (by rw [← e2]; exact X'.warmed.alike) hp hb k1 k2 k3 T' rfl X'
    exact ⟨t2, st t2 a1, b1⟩
  · obtain ⟨k1, k2, k3⟩ := vx_keep h0 e1 hS hAX hf hL hF
    obtain ⟨t2, a1, b1⟩ := kx E ce q u t T'.heap (locs ++ L) e1.symm (by rw [← e2]; exact X'.warmed.alike) hp hb k1 k2 k3 (by rw [e1]; exact hce) hcv hcl T' rfl X'
    exact ⟨t2, st.trans a1, b1⟩
/-- caught by the row x of this method's table; the rows ahead don't take it -/
theorem vx_catch {own name : String} {E : String} {ce : Cell} {q : Addr} (hown : s.vm.findClass own = some m.cls) (pre : List ExceptionTableEntry) (x : ExceptionTableEntry) (suf : List ExceptionTableEntry) (hsplit : c.exceptionTable.toList = pre ++ x :: suf)
    (hpass : ∀ z ∈ pre, covers z pc = false ∨ (z.catchType ≠ 0 ∧ ∃ nm : String, (Cond.classLink own z.catchType nm).before args s = true ∧ va_Nc E nm s)) (hx : covers x pc = true) (h0 : x.catchType ≠ 0)
    (hlink : (Cond.classLink own x.catchType name).before args s = true) (hcast : (Cond.castable E name).before args s = true) (hcell : H[q]? = some ce) (hv : ce.vm = .none) (hcl : s.vm.findClass E = some ce.cls)
    (kk : W p l e R s m args below meth c H locs cells slots Q (F0 m x.handlerPc ls [.ref q])) : vx_W p l e R s m args below meth c H locs cells slots Q (F0 m pc ls rest) q := by
  intro T hT X
  have hpl : e.platform.magicAccessors = ({} : Platform).magicAccessors := by rw [X.admits.platform]
  obtain ⟨c3, c4, hc3, hc4, hasg⟩ := Cond.castable_spec hcast
  cases Option.some.inj (hc3.symm.trans hcl)
  obtain ⟨c5, hc5, hcl5⟩ := Cond.classLink_spec hown hlink e.platform hpl
  cases Option.some.inj (hc4.symm.trans hc5)
  obtain ⟨vm', X', st⟩ := X.thenCaughtThrough q (g := F0 m pc ls rest) rfl (Steps.refl _) (by rw [hT]; exact hcell) (by rw [hv]; rfl) (by obtain ⟨k9, h9, -⟩ := Vm.findClass_spec hcl; exact ⟨k9, h9⟩) pre x suf hsplit
    (fun z hz => by
      rcases hpass z hz with h | ⟨hz0, nm, hl1, hn1⟩
      · exact Or.inl h
      · obtain ⟨c6, hc6, hcl6⟩ := Cond.classLink_spec hown hl1 e.platform hpl
        obtain ⟨a8, b8, h1, h2, h3⟩ := hn1
        cases Option.some.inj (h1.symm.trans hcl)
        cases Option.some.inj (h2.symm.trans hc6)
        exact Or.inr ⟨hz0, _, hcl6, h3⟩) hx (Or.inr ⟨h0, c4, hcl5, hasg⟩)
  obtain ⟨t, a1, b1⟩ := kk (T.setVm vm') hT X'
  exact ⟨t, st.trans a1, b1⟩
end Rows
section Ends
variable {p : Program} {l : Launch} {e : Env} {R : Room} {s : State} {m : MethodId} {args : Array Value} {below : List Frame} {meth : Method} {c : Code} {H : Heap} {locs : List Loc} {cells slots : Nat} {Q : State → Prop}
variable {mc ms : Nat} {free : Addr → Prop} {A0 A1 : Nat → Prop} {H0 : Heap} {a : Array Value} {ls : Array Slot} {st0 rest : List Value}
variable {Qc : Array Value → State → Outcome → State → Prop} {XC : String → State → State → Prop}
/-- what a body that may throw owes at its end -/
def vx_MQ (below : List Frame) (Qc : Array Value → State → Outcome → State → Prop) (XC : String → State → State → Prop) (a : Array Value) (s : State) (mc ms : Nat) (free : Addr → Prop) : State → Prop := fun t =>
  ∃ o, t.status = .running ∧ Ended t below o ∧ vx_Q Qc XC mc ms free a s o t
theorem vx_ret {g : JFrame} {mc ms : Nat} (k : W p l e R s m args below meth c H locs cells slots (MQ below Qc args s mc ms free) g) : W p l e R s m args below meth c H locs cells slots (vx_MQ below Qc XC args s mc ms free) g := by
  intro T hT X
  obtain ⟨t, a1, o, b1, b2, b3, b4⟩ := k T hT X
  exact ⟨t, a1, o, b1, b2, Or.inl ⟨b3, b4⟩⟩
/-- not caught here: it goes on to the caller -/
theorem vx_widen {g : JFrame} {q : Addr} {k n : Nat} (h1 : cells ≤ k) (h2 : slots ≤ n) (kk : vx_W p l e R s m args below meth c H locs k n Q g q) : vx_W p l e R s m args below meth c H locs cells slots Q g q := fun T hT X => kk T hT (stand_widen X h1 h2)
theorem vx_out {pc : Nat} {E : String} {ce : Cell} {q : Addr} {mc ms : Nat} (hout : ∀ x ∈ c.exceptionTable.toList, covers x pc = false) (hlocks : meth.locks = false) (hcell : H[q]? = some ce) (hv : ce.vm = .none) (hcl : s.vm.findClass E = some ce.cls)
    (hx : ∀ t : State, t.heap = H → s.vm.Alike t.vm → XC E s t) (hf : ∀ z ∈ locs, free z.base) (hc : cells ≤ mc) (hs : slots ≤ ms) :
    vx_W p l e R s m args below meth c H locs cells slots (vx_MQ below Qc XC args s mc ms free) (F0 m pc ls rest) q := by
  intro T hT X
  obtain ⟨st1, hrun, hend, hW, hsm⟩ := X.leaveThrown q (g := F0 m pc ls rest) rfl rfl rfl hout hlocks
  have hcell9 : (T.setFrames (.throwing q :: below)).heap[q]? = some ce := by
    show T.heap[q]? = some ce
    rw [hT]; exact hcell
  exact ⟨_, st1, .threw q, hrun, hend, Or.inr ⟨q, rfl, E, ce, locs, hx _ hT hW.alike, hcell9, hv, hcl, hW, hsm.mono hc hs, hf⟩⟩
theorem vx_frame {U : State} {k n : Nat} (h : s.sameButNew ({ U with vm := s.vm } : State) locs k n) : s.heap.size ≤ U.heap.size ∧ ∀ q : Nat, q < s.heap.size → (∀ z ∈ locs, z.base ≠ q) → U.heap[q]? = s.heap[q]? := by
  obtain ⟨-, h2, -, -, -, h6⟩ := h
  refine ⟨h2, fun q hq hz => ?_⟩
  obtain ⟨c9, e1, e2, e3, e4⟩ := h6 q _ (Array.getElem?_eq_getElem hq)
  have hs : c9.slots = (s.heap[q]).slots := Array.ext_getElem? fun i => e4 i fun hm => hz _ hm rfl
  have h9 : c9 = s.heap[q] := by
    rw [hs] at e2
    exact e2
  have e5 : U.heap[q]? = some c9 := e1
  rw [e5, h9, Array.getElem?_eq_getElem hq]
/-- the words of a throw but the four that speak of the heap -/
def vx_no (w : Cond) : Bool := decide (w ≠ .isRef (.static Bundle.tN "UNASSIGNED_STACK" Bundle.steD)) && decide (w ≠ .isRef (.static Bundle.tN "SUPPRESSED_SENTINEL" Bundle.listD)) && decide (w ≠ .laysStatic Bundle.tN "UNASSIGNED_STACK" Bundle.steD) && decide (w ≠ .laysStatic Bundle.tN "SUPPRESSED_SENTINEL" Bundle.listD)
def vx_at0 (own : String) (ic : Nat) (X : String) (names : List String) : List Cond := (Bundle.ownAtoms0 own ic X names).filter vx_no
def vx_atS (own : String) (ic : Nat) (X : String) (names : List String) : List Cond := (Bundle.ownAtoms own ic X names).filter vx_no
/-- a word that the tables alone decide, or a good one -/
def vx_ot (w : Cond) : Bool := w.onTables || goodWord w
theorem vx_ot_at {args a' : Array Value} {s U : State} {w : Cond} (hW : s.WarmedH U.vm) (hvm : s.vm = U.vm) (hg : vx_ot w = true) (h : w.before args s = true) : w.before a' U = true := by
  simp only [vx_ot, Bool.or_eq_true] at hg
  rcases hg with hg | hg
  · exact va_tabs hg hvm h
  · exact word_at hW (good_of_word hg) h
/-- a list's words: the good ones out of the method's own list, the others by premises of their own -/
theorem vx_hat {args : Array Value} {s : State} {L B : List Cond} (h1 : ∀ w ∈ L.filter goodWord, w.before args s = true) (h2 : ∀ w ∈ L.filter (fun w => !goodWord w), w ∈ B) (h3 : ∀ w ∈ B, w.before args s = true) : ∀ w ∈ L, w.before args s = true := by
  intro w hw
  by_cases g : goodWord w = true
  · exact h1 w (List.mem_filter.mpr ⟨hw, g⟩)
  · refine h3 w (h2 w (List.mem_filter.mpr ⟨hw, ?_⟩))
    show (!goodWord w) = true
    cases hgw : goodWord w
    · rfl
    · exact absurd hgw g
theorem vx_c {args : Array Value} {s : State} {w : Cond} {B : List Cond} (h : w.before args s = true) (t : ∀ w ∈ B, w.before args s = true) : ∀ w' ∈ w :: B, w'.before args s = true := fun w' h' => (List.mem_cons.mp h').elim (fun e => by rw [e]; exact h) (t w')
theorem vx_n {args : Array Value} {s : State} : ∀ w ∈ ([] : List Cond), w.before args s = true := fun _ h => nomatch h
theorem vx_own {args : Array Value} {s : State} {L : List Cond} (h1 : ∀ w ∈ L.filter vx_no, w.before args s = true)
    (hU : (Cond.isRef (.static Bundle.tN "UNASSIGNED_STACK" Bundle.steD)).before args s = true) (hN : (Cond.isRef (.static Bundle.tN "SUPPRESSED_SENTINEL" Bundle.listD)).before args s = true)
    (lU : (Cond.laysStatic Bundle.tN "UNASSIGNED_STACK" Bundle.steD).before args s = true) (lN : (Cond.laysStatic Bundle.tN "SUPPRESSED_SENTINEL" Bundle.listD).before args s = true) : ∀ w ∈ L, w.before args s = true := by
  intro w hw
  by_cases e1 : w = .isRef (.static Bundle.tN "UNASSIGNED_STACK" Bundle.steD)
  · rw [e1]; exact hU
  · by_cases e2 : w = .isRef (.static Bundle.tN "SUPPRESSED_SENTINEL" Bundle.listD)
    · rw [e2]; exact hN
    · by_cases e3 : w = .laysStatic Bundle.tN "UNASSIGNED_STACK" Bundle.steD
      · rw [e3]; exact lU
      · by_cases e4 : w = .laysStatic Bundle.tN "SUPPRESSED_SENTINEL" Bundle.listD
        · rw [e4]; exact lN
        · exact h1 w (List.mem_filter.mpr ⟨hw, by unfold vx_no; rw [decide_eq_true e1, decide_eq_true e2, decide_eq_true e3, decide_eq_true e4]; rfl⟩)
/-- where a static field lies, its class's statics cell in H -/
def vx_L (C n d : String) (A : Nat → Prop) (U : State) (H : Heap) : Prop := ∃ (c : ClassId) (k : Class) (i : Nat) (f : Field) (a : Nat) (cell : Cell), U.vm.findClass C = some c ∧ U.fieldFound? C n d = some (c, k, i, f) ∧ f.isStatic = true ∧ k.statics = some a ∧ H[a]? = some cell ∧ cell.vm.isStatics = true ∧ cell.cls = c ∧ f.slot < cell.slots.size ∧ k.staticTypes[f.slot]? = some f.type ∧ ¬ A a
theorem vx_L.moved {C n d : String} {A : Nat → Prop} {u U : State} {H : Heap} (hvm : u.vm.Alike U.vm) (h : vx_L C n d A u H) : vx_L C n d A U H := by
  obtain ⟨c, k, i, f, a, cell, h1, h2, h3, h4, h5, h6, h7, h8, h9, h10⟩ := h
  obtain ⟨k', hi', he⟩ := State.fieldFound?_setVm hvm h2
  exact ⟨c, k', i, f, a, cell, by rw [hvm.findClass]; exact h1, hi', h3, by rw [he]; exact h4, h5, h6, h7, h8, by rw [he]; exact h9, h10⟩
theorem vx_L.kept {C n d : String} {A : Nat → Prop} {U : State} {H H1 : Heap} (h : vx_L C n d A U H) (hq : ∀ a : Nat, a < H.size → ¬ A a → H1[a]? = H[a]?) : vx_L C n d A U H1 := by
  obtain ⟨c, k, i, f, a, cell, h1, h2, h3, h4, h5, h6, h7, h8, h9, h10⟩ := h
  exact ⟨c, k, i, f, a, cell, h1, h2, h3, h4, by rw [hq a (Array.getElem?_eq_some_iff.mp h5).1 h10]; exact h5, h6, h7, h8, h9, h10⟩
theorem vx_L.narrow {C n d : String} {A B : Nat → Prop} {U : State} {H : Heap} (h : vx_L C n d A U H) (hAB : ∀ q, B q → A q) : vx_L C n d B U H := by
  obtain ⟨c, k, i, f, a, cell, h1, h2, h3, h4, h5, h6, h7, h8, h9, h10⟩ := h
  exact ⟨c, k, i, f, a, cell, h1, h2, h3, h4, h5, h6, h7, h8, h9, fun z => h10 (hAB _ z)⟩
theorem vx_L.word {C n d : String} {A : Nat → Prop} {s : State} {args : Array Value} (h : vx_L C n d A s s.heap) : (Cond.laysStatic C n d).before args s = true := by
  obtain ⟨c, k, i, f, a, cell, h1, h2, h3, h4, h5, h6, h7, h8, h9, -⟩ := h
  show (Cond.laysStatic C n d).holds args s none s [] = true
  exact Cond.laysStatic_of h1 h2 h3 h4 h5 h6 h7 h8 h9
/-- .. and what it holds: null or some reference -/
def vx_Zq (C n d : String) (A : Nat → Prop) (U : State) (H : Heap) : Prop := va_Zq C n d A U H ∧ vx_L C n d A U H
theorem vx_Zq.moved {C n d : String} {A : Nat → Prop} {u U : State} {H : Heap} (hvm : u.vm.Alike U.vm) (h : vx_Zq C n d A u H) : vx_Zq C n d A U H := ⟨va_Zq.moved hvm h.1, vx_L.moved hvm h.2⟩
theorem vx_Zq.kept {C n d : String} {A : Nat → Prop} {U : State} {H H1 : Heap} (h : vx_Zq C n d A U H) (hq : ∀ a : Nat, a < H.size → ¬ A a → H1[a]? = H[a]?) : vx_Zq C n d A U H1 := ⟨va_Zq.kept h.1 hq, vx_L.kept h.2 hq⟩
theorem vx_Zq.narrow {C n d : String} {A B : Nat → Prop} {U : State} {H : Heap} (h : vx_Zq C n d A U H) (hAB : ∀ q, B q → A q) : vx_Zq C n d B U H := ⟨va_Zq.narrow h.1 hAB, vx_L.narrow h.2 hAB⟩
theorem vx_Zqof {args : Array Value} {s : State} {C n d : String} {A : Nat → Prop} (hl : (Cond.laysStatic C n d).before args s = true) (hini : (Cond.initialized C).before args s = true) (h : (Cond.isRef (.static C n d)).before args s = true) (hA : ∀ a : Nat, a < s.heap.size → ¬ A a) : vx_Zq C n d A s s.heap := by
  refine ⟨va_Zqof hl hini h hA, ?_⟩
  obtain ⟨c, k, i, f, a, cell, h1, h2, h3, h4, h5, h6, h7, h8, h9⟩ := Cond.laysStatic_spec hl
  exact ⟨c, k, i, f, a, cell, h1, h2, h3, h4, h5, h6, h7, h8, h9, hA a (Array.getElem?_eq_some_iff.mp h5).1⟩
theorem vx_isRef {C n d : String} {v : Value} {A : Nat → Prop} {s : State} {args : Array Value} (h : va_Z C n d v A s s.heap) (hv : v.isRef = true) : (Cond.isRef (.static C n d)).before args s = true := by
  obtain ⟨cf, kf, fi, f, a, cell, h1, h2, h3, h4, h5, h6, h7, -⟩ := h
  have he : (Term.static C n d).eval args s none [] s = some v := by
    simp [Term.eval, State.fieldNamed?, h1, h2, h4, h5, h6, h7]
  simp only [Cond.before, Cond.holds, Cond.value, he]
  cases v <;> simp_all [Value.isRef]
theorem vx_isRefq {C n d : String} {A : Nat → Prop} {s : State} {args : Array Value} (h : va_Zq C n d A s s.heap) : (Cond.isRef (.static C n d)).before args s = true := by
  rcases h with h | ⟨t, h⟩
  · exact vx_isRef h rfl
  · exact vx_isRef h rfl
/-- the same frame, seen from here: as if the method were called anew in this heap -/
theorem vx_rebase {T : State} (X : Stand p l e R s m args below meth c T locs cells slots) {R' : Room} (hf : R'.frames ≤ R.frames) (hl : R'.locals ≤ R.locals) (hc : cells + R'.cells ≤ R.cells) (hs : slots + R'.slots ≤ R.slots) :
    Stand p l e R' ((T.setVm s.vm).setFrames (.invoking m args :: below)) m args below meth c T [] 0 0 := by
  have htop : (T.setVm s.vm).topJava?.isSome := X.here.top
  have hF : ((T.setVm s.vm).setFrames (.invoking m args :: below)).frames = .invoking m args :: below := State.frames_setFrames _ (State.cur_lt_of_top htop)
  obtain ⟨g₀, hg0⟩ := Option.isSome_iff_exists.mp htop
  obtain ⟨r, hr⟩ := State.topJava?_eq_some.mp hg0
  have hl9 : e.platform.stackLimits (T.setVm s.vm).me = e.platform.stackLimits s.me := X.limits
  have hb9 : (T.setVm s.vm).me.stackBytes = s.me.stackBytes := X.bytes
  refine ⟨X.admits, X.cas, X.clock, hF, ?_, X.hears, X.method, X.code, X.here, X.tail, X.warmed, ?_, ?_, ?_⟩
  · have h := X.room
    have hU : ((T.setVm s.vm).setFrames (.invoking m args :: below)).localsInUse = s.localsInUse := by
      rw [State.localsInUse_invoking hF (meth := meth) (c := c) X.method X.code, State.localsInUse_invoking X.frames X.method X.code]
    simp only [State.hasRoom, Bool.and_eq_true, decide_eq_true_eq] at h ⊢
    obtain ⟨⟨⟨⟨h1, h2, h3, h4, h5, h6⟩, h7⟩, h8⟩, h9⟩ := h
    rw [X.frames, List.length_cons] at h2 h3
    have q1 := X.heapSize
    have q2 := X.used
    simp only [hF, hU, List.length_cons, State.stackLimits_setFrames, State.stackBytes_setFrames, hl9, hb9]
    refine ⟨⟨⟨⟨by omega, by omega, by omega, by omega, by omega, h6⟩, ?_⟩, ?_⟩, X.book⟩
    · show T.heap.size + R'.cells ≤ e.platform.maxCells
      omega
    · show T.slotsUsed + R'.slots ≤ e.platform.maxSlots
      omega
  · rw [State.stackLimits_setFrames]; rfl
  · rw [State.stackBytes_setFrames]; rfl
  · refine ⟨?_, Nat.le_refl _, Nat.le_refl _, ?_, ?_, fun a c9 h9 => ⟨c9, h9, rfl, rfl, fun _ _ => rfl⟩⟩
    · obtain ⟨t, ht, -⟩ := State.frames_cons hr
      show T.setVm s.vm = { ((T.setVm s.vm).setFrames (.invoking m args :: below)).setFrames (T.setVm s.vm).frames with heap := T.heap, slotsUsed := T.slotsUsed }
      rw [State.setFrames_setFrames, State.setFrames_self ht]
      rfl
    · show T.slotsUsed = T.slotsUsed + ((T.heap.toList.drop T.heap.size).map (·.slots.size)).sum
      rw [List.drop_eq_nil_of_le (Nat.le_of_eq Array.length_toList)]
      rfl
    · show ((T.heap.toList.drop T.heap.size).map (·.slots.size)).sum ≤ 0
      rw [List.drop_eq_nil_of_le (Nat.le_of_eq Array.length_toList)]
      exact Nat.le_refl _
/-- 'throw new E()': new; dup; invokespecial; athrow -/
theorem vx_throw0 {cc : ByteArray} {pc : Nat} (hexec : p.tables.exec = Jvm.exec) (hb : c.code = cc) (hl : l.stackTraces = false) {own cls : String} {names : List String} {ik ic mc ms : Nat} {A : Nat → Prop}
    (hown : s.vm.findClass own = some m.cls) (hcls : Bundle.fit cls = true) (hnames : ∀ n ∈ names, Bundle.fit n = true)
    (hk : (Cond.classLink own ik cls).before args s = true) (hini : (Cond.initialized cls).before args s = true) (hat : ∀ w ∈ vx_at0 own ic cls names, w.before args s = true)
    (hgood : ∀ w ∈ Cond.classLink own ik cls :: Cond.initialized cls :: vx_at0 own ic cls names, vx_ot w = true)
    (hU : vx_Zq Bundle.tN "UNASSIGNED_STACK" Bundle.steD A s s.heap) (hN : vx_Zq Bundle.tN "SUPPRESSED_SENTINEL" Bundle.listD A s s.heap) (hS : va_S A s.heap H locs) (hsize : ls.size = c.maxLocals)
    (d0 : decode cc pc = .ok (.new ik, 3)) (d3 : decode cc (pc + 3) = .ok (.dup, 1)) (d4 : decode cc (pc + 4) = .ok (.invokespecial ic, 3)) (d7 : decode cc (pc + 7) = .ok (.athrow, 1))
    (hout : ∀ x ∈ c.exceptionTable.toList, covers x (pc + 7) = false)
    (hRframes : names.length + 3 < R.frames) (hRlocals : (rest.map fun v => v.category).sum + (13 * (names.length + 1) + 42) ≤ R.locals) (hRcells : cells + 1 ≤ R.cells) (hRslots : slots + 6 ≤ R.slots) (hlocks : meth.locks = false)
    (hx : ∀ t : State, s.vm.Alike t.vm → H.size ≤ t.heap.size → (∀ q : Nat, q < H.size → t.heap[q]? = H[q]?) → XC cls s t)
    (hf : ∀ z ∈ locs, free z.base) (hc : cells + 1 ≤ mc) (hs : slots + 6 ≤ ms) :
    W p l e R s m args below meth c H locs cells slots (vx_MQ below Qc XC args s mc ms free) (F0 m pc ls rest) := by
  intro T hT X
  have htr : e.platform.stackTraces = false := (show e.platform.stackTraces = l.stackTraces by rw [X.admits.platform]).trans hl
  have Y := vx_rebase X (R' := { frames := R.frames, locals := R.locals, cells := 1, slots := 6 }) (Nat.le_refl _) (Nat.le_refl _) hRcells hRslots
  obtain ⟨s', hA⟩ : ∃ z, z = (T.setVm s.vm).setFrames (.invoking m args :: below) := ⟨_, rfl⟩
  rw [← hA] at Y
  have hvm : s'.vm = s.vm := by rw [hA]; rfl
  have hhp : s'.heap = H := by rw [hA]; exact hT
  have hW0 : s.WarmedH s'.vm := by rw [hvm]; exact State.WarmedH.refl s
  have hat' : ∀ w ∈ vx_at0 own ic cls names, w.before args s' = true := fun w hw => vx_ot_at hW0 hvm.symm (hgood w (List.mem_cons_of_mem _ (List.mem_cons_of_mem _ hw))) (hat w hw)
  have hk' : (Cond.classLink own ik cls).before args s' = true := vx_ot_at hW0 hvm.symm (hgood _ List.mem_cons_self) hk
  have hini' : (Cond.initialized cls).before args s' = true := vx_ot_at hW0 hvm.symm (hgood _ (List.mem_cons_of_mem _ List.mem_cons_self)) hini
  have hU' : vx_Zq Bundle.tN "UNASSIGNED_STACK" Bundle.steD A s' s'.heap := by rw [hhp]; exact vx_Zq.moved hW0.alike (hU.kept hS.2.1)
  have hN' : vx_Zq Bundle.tN "SUPPRESSED_SENTINEL" Bundle.listD A s' s'.heap := by rw [hhp]; exact vx_Zq.moved hW0.alike (hN.kept hS.2.1)
  have h : ∀ w ∈ Bundle.ownAtoms0 own ic cls names, w.before args s' = true := vx_own hat' (vx_isRefq hU'.1) (vx_isRefq hN'.1) hU'.2.word hN'.2.word
  have hown' : s'.vm.findClass own = some m.cls := by rw [hvm]; exact hown
  have hins : (Cond.instantiable cls 6).before args s' = true := h _ (by simp [Bundle.ownAtoms0])
  obtain ⟨vm₁, cX, kX, hfX, hkX, -, -, X₁, st1⟩ := Y.newCold hexec (own := own) (C := cls) (index := ik) (n := 6) hown' hk' hins hini'
    (g := F0 m pc ls rest) rfl (by rw [hb]; exact d0) (Nat.le_refl _) (Nat.le_refl _)
  generalize hT1 : (T.setVm vm₁).pushCell { cls := cX, slots := kX.instanceTypes.map defaultValue, vm := .none } = T1 at X₁ st1
  have hcat : (Value.ref T.heap.size).category = 1 := rfl
  have hcellA : T1.heap[T.heap.size]? = some (freshCell cX kX) := by rw [← hT1]; exact State.heap_pushCell_size _ _
  have d3' : decode c.code (pc + 3) = .ok (.dup, 1) := by rw [hb]; exact d3
  obtain ⟨U, hsteps, hrun, hend, hW, hsame, ce, hce, hO⟩ := X₁.ctorThrow0 hexec htr (own := own) (cls := cls) (names := names) (ic := ic) hown' hcls hnames h (fun x hx => nomatch hx) hfX hkX hcellA (by rw [hhp, hT]; exact Nat.le_refl _)
    (g := { method := m, pc := pc + 4, locals := ls, stack := .ref T.heap.size :: .ref T.heap.size :: rest, locked := none }) rfl hsize rfl rfl (rest := rest) rfl
    (by rw [hb]; exact d4) (by rw [hb]; exact d7) hout hRframes (by simp only [List.map_cons, List.sum_cons, hcat]; omega) hlocks
  obtain ⟨f1, f2⟩ := vx_frame hsame
  rw [hhp] at f1 f2
  have hWs : s.WarmedH U.vm := State.WarmedH.trans hW0 hW
  have hcl : s.vm.findClass cls = some ce.cls := by
    have h9 := hO.cls
    rw [hvm] at h9
    exact h9
  have hall : s.sameButNew ({ U with vm := s.vm } : State) locs mc ms := by
    subst hA
    obtain ⟨e1, e2⟩ := hsame
    rw [State.setFrames_setFrames] at e1
    have h2 : (T.setVm s.vm).sameButNew ({ U with vm := s.vm } : State) [] (0 + 1) (0 + 6) := ⟨e1, e2⟩
    have h3 := X.same.trans h2
    rw [List.append_nil] at h3
    exact h3.mono hc hs
  refine ⟨U, ?_, .threw T.heap.size, hrun, hend, Or.inr ⟨T.heap.size, rfl, cls, ce, locs, hx U hWs.alike f1 (fun q hq => f2 q hq (fun z hz => nomatch hz)), hce, hO.vm, hcl, hWs, hall, hf⟩⟩
  refine st1 _ ?_
  show Steps p.tables e below (T1.setTop { method := m, pc := pc + 3, locals := ls, stack := .ref T.heap.size :: rest, locked := none }) _
  jvm_step X₁.here [X₁.here.top, hexec, d3', Value.category]
  exact hsteps
/-- 'throw new E("text")': new; dup; ldc; invokespecial; athrow -/
theorem vx_throwS {cc : ByteArray} {pc : Nat} (hexec : p.tables.exec = Jvm.exec) (hb : c.code = cc) (hl : l.stackTraces = false) {own cls text : String} {names : List String} {ik is ic mc ms sa : Nat} {A : Nat → Prop}
    (hown : s.vm.findClass own = some m.cls) (hcls : Bundle.fit cls = true) (hnames : ∀ n ∈ names, Bundle.fit n = true)
    (hk : (Cond.classLink own ik cls).before args s = true) (hini : (Cond.initialized cls).before args s = true) (hstr : vk_R own is text sa s) (hat : ∀ w ∈ vx_atS own ic cls names, w.before args s = true)
    (hgood : ∀ w ∈ Cond.classLink own ik cls :: Cond.initialized cls :: vx_atS own ic cls names, vx_ot w = true)
    (hU : vx_Zq Bundle.tN "UNASSIGNED_STACK" Bundle.steD A s s.heap) (hN : vx_Zq Bundle.tN "SUPPRESSED_SENTINEL" Bundle.listD A s s.heap) (hS : va_S A s.heap H locs) (hsize : ls.size = c.maxLocals)
    (d0 : decode cc pc = .ok (.new ik, 3)) (d3 : decode cc (pc + 3) = .ok (.dup, 1)) (d4 : decode cc (pc + 4) = .ok (.ldc is, 2)) (d6 : decode cc (pc + 6) = .ok (.invokespecial ic, 3)) (d9 : decode cc (pc + 9) = .ok (.athrow, 1))
    (hout : ∀ x ∈ c.exceptionTable.toList, covers x (pc + 9) = false)
    (hRframes : names.length + 3 < R.frames) (hRlocals : (rest.map fun v => v.category).sum + (13 * (names.length + 1) + 43) ≤ R.locals) (hRcells : cells + 1 ≤ R.cells) (hRslots : slots + 6 ≤ R.slots) (hlocks : meth.locks = false)
    (hx : ∀ t : State, s.vm.Alike t.vm → H.size ≤ t.heap.size → (∀ q : Nat, q < H.size → t.heap[q]? = H[q]?) → XC cls s t)
    (hf : ∀ z ∈ locs, free z.base) (hc : cells + 1 ≤ mc) (hs : slots + 6 ≤ ms) :
    W p l e R s m args below meth c H locs cells slots (vx_MQ below Qc XC args s mc ms free) (F0 m pc ls rest) := by
  intro T hT X
  have htr : e.platform.stackTraces = false := (show e.platform.stackTraces = l.stackTraces by rw [X.admits.platform]).trans hl
  have Y := vx_rebase X (R' := { frames := R.frames, locals := R.locals, cells := 1, slots := 6 }) (Nat.le_refl _) (Nat.le_refl _) hRcells hRslots
  obtain ⟨s', hA⟩ : ∃ z, z = (T.setVm s.vm).setFrames (.invoking m args :: below) := ⟨_, rfl⟩
  rw [← hA] at Y
  have hvm : s'.vm = s.vm := by rw [hA]; rfl
  have hhp : s'.heap = H := by rw [hA]; exact hT
  have hW0 : s.WarmedH s'.vm := by rw [hvm]; exact State.WarmedH.refl s
  have hat' : ∀ w ∈ vx_atS own ic cls names, w.before args s' = true := fun w hw => vx_ot_at hW0 hvm.symm (hgood w (List.mem_cons_of_mem _ (List.mem_cons_of_mem _ hw))) (hat w hw)
  have hk' : (Cond.classLink own ik cls).before args s' = true := vx_ot_at hW0 hvm.symm (hgood _ List.mem_cons_self) hk
  have hini' : (Cond.initialized cls).before args s' = true := vx_ot_at hW0 hvm.symm (hgood _ (List.mem_cons_of_mem _ List.mem_cons_self)) hini
  have hU' : vx_Zq Bundle.tN "UNASSIGNED_STACK" Bundle.steD A s' s'.heap := by rw [hhp]; exact vx_Zq.moved hW0.alike (hU.kept hS.2.1)
  have hN' : vx_Zq Bundle.tN "SUPPRESSED_SENTINEL" Bundle.listD A s' s'.heap := by rw [hhp]; exact vx_Zq.moved hW0.alike (hN.kept hS.2.1)
  have h : ∀ w ∈ Bundle.ownAtoms own ic cls names, w.before args s' = true := vx_own hat' (vx_isRefq hU'.1) (vx_isRefq hN'.1) hU'.2.word hN'.2.word
  have hown' : s'.vm.findClass own = some m.cls := by rw [hvm]; exact hown
  have hins : (Cond.instantiable cls 6).before args s' = true := h _ (by simp [Bundle.ownAtoms])
  obtain ⟨vm₁, cX, kX, hfX, hkX, -, -, X₁, st1⟩ := Y.newCold hexec (own := own) (C := cls) (index := ik) (n := 6) hown' hk' hins hini'
    (g := F0 m pc ls rest) rfl (by rw [hb]; exact d0) (Nat.le_refl _) (Nat.le_refl _)
  generalize hT1 : (T.setVm vm₁).pushCell { cls := cX, slots := kX.instanceTypes.map defaultValue, vm := .none } = T1 at X₁ st1
  have hcat : (Value.ref T.heap.size).category = 1 := rfl
  have hcellA : T1.heap[T.heap.size]? = some (freshCell cX kX) := by rw [← hT1]; exact State.heap_pushCell_size _ _
  have d3' : decode c.code (pc + 3) = .ok (.dup, 1) := by rw [hb]; exact d3
  have d4' : decode c.code (pc + 4) = .ok (.ldc is, 2) := by rw [hb]; exact d4
  have hstr' : vk_R own is text sa s' := vk_R.warm hW0 hstr
  obtain ⟨U, hsteps, hrun, hend, hW, hsame, ce, hce, hO⟩ := X₁.ctorThrowS hexec htr (own := own) (cls := cls) (names := names) (ic := ic) hown' hcls hnames h (fun x hx => nomatch hx) hfX hkX hcellA (by rw [hhp, hT]; exact Nat.le_refl _) (msg := .ref sa) rfl
    (g := { method := m, pc := pc + 6, locals := ls, stack := .ref sa :: .ref T.heap.size :: .ref T.heap.size :: rest, locked := none }) rfl hsize rfl rfl (rest := rest) rfl
    (by rw [hb]; exact d6) (by rw [hb]; exact d9) hout hRframes (by simp only [List.map_cons, List.sum_cons, hcat]; omega) hlocks
  obtain ⟨f1, f2⟩ := vx_frame hsame
  rw [hhp] at f1 f2
  have hWs : s.WarmedH U.vm := State.WarmedH.trans hW0 hW
  have hcl : s.vm.findClass cls = some ce.cls := by
    have h9 := hO.cls
    rw [hvm] at h9
    exact h9
  have hall : s.sameButNew ({ U with vm := s.vm } : State) locs mc ms := by
    subst hA
    obtain ⟨e1, e2⟩ := hsame
    rw [State.setFrames_setFrames] at e1
    have h2 : (T.setVm s.vm).sameButNew ({ U with vm := s.vm } : State) [] (0 + 1) (0 + 6) := ⟨e1, e2⟩
    have h3 := X.same.trans h2
    rw [List.append_nil] at h3
    exact h3.mono hc hs
  refine ⟨U, ?_, .threw T.heap.size, hrun, hend, Or.inr ⟨T.heap.size, rfl, cls, ce, locs, hx U hWs.alike f1 (fun q hq => f2 q hq (fun z hz => nomatch hz)), hce, hO.vm, hcl, hWs, hall, hf⟩⟩
  refine st1 _ ?_
  show Steps p.tables e below (T1.setTop { method := m, pc := pc + 3, locals := ls, stack := .ref T.heap.size :: rest, locked := none }) _
  jvm_step X₁.here [X₁.here.top, hexec, d3', Value.category]
  exact X₁.ldcString hexec (own := own) (text := text) (index := is) (a := sa) hown' hstr'.1 hstr'.2
    (g := { method := m, pc := pc + 4, locals := ls, stack := .ref T.heap.size :: .ref T.heap.size :: rest, locked := none }) rfl d4' _ hsteps
/-- 'throw new E("text")', the text by a wide index -/
theorem vx_throwSW {cc : ByteArray} {pc : Nat} (hexec : p.tables.exec = Jvm.exec) (hb : c.code = cc) (hl : l.stackTraces = false) {own cls text : String} {names : List String} {ik is ic mc ms sa : Nat} {A : Nat → Prop}
    (hown : s.vm.findClass own = some m.cls) (hcls : Bundle.fit cls = true) (hnames : ∀ n ∈ names, Bundle.fit n = true)
    (hk : (Cond.classLink own ik cls).before args s = true) (hini : (Cond.initialized cls).before args s = true) (hstr : vk_R own is text sa s) (hat : ∀ w ∈ vx_atS own ic cls names, w.before args s = true)
    (hgood : ∀ w ∈ Cond.classLink own ik cls :: Cond.initialized cls :: vx_atS own ic cls names, vx_ot w = true)
    (hU : vx_Zq Bundle.tN "UNASSIGNED_STACK" Bundle.steD A s s.heap) (hN : vx_Zq Bundle.tN "SUPPRESSED_SENTINEL" Bundle.listD A s s.heap) (hS : va_S A s.heap H locs) (hsize : ls.size = c.maxLocals)
    (d0 : decode cc pc = .ok (.new ik, 3)) (d3 : decode cc (pc + 3) = .ok (.dup, 1)) (d4 : decode cc (pc + 4) = .ok (.ldc_w is, 3)) (d7 : decode cc (pc + 7) = .ok (.invokespecial ic, 3)) (d10 : decode cc (pc + 10) = .ok (.athrow, 1))
    (hout : ∀ x ∈ c.exceptionTable.toList, covers x (pc + 10) = false)
    (hRframes : names.length + 3 < R.frames) (hRlocals : (rest.map fun v => v.category).sum + (13 * (names.length + 1) + 43) ≤ R.locals) (hRcells : cells + 1 ≤ R.cells) (hRslots : slots + 6 ≤ R.slots) (hlocks : meth.locks = false)
    (hx : ∀ t : State, s.vm.Alike t.vm → H.size ≤ t.heap.size → (∀ q : Nat, q < H.size → t.heap[q]? = H[q]?) → XC cls s t)
    (hf : ∀ z ∈ locs, free z.base) (hc : cells + 1 ≤ mc) (hs : slots + 6 ≤ ms) :
    W p l e R s m args below meth c H locs cells slots (vx_MQ below Qc XC args s mc ms free) (F0 m pc ls rest) := by
  intro T hT X
  have htr : e.platform.stackTraces = false := (show e.platform.stackTraces = l.stackTraces by rw [X.admits.platform]).trans hl
  have Y := vx_rebase X (R' := { frames := R.frames, locals := R.locals, cells := 1, slots := 6 }) (Nat.le_refl _) (Nat.le_refl _) hRcells hRslots
  obtain ⟨s', hA⟩ : ∃ z, z = (T.setVm s.vm).setFrames (.invoking m args :: below) := ⟨_, rfl⟩
  rw [← hA] at Y
  have hvm : s'.vm = s.vm := by rw [hA]; rfl
  have hhp : s'.heap = H := by rw [hA]; exact hT
  have hW0 : s.WarmedH s'.vm := by rw [hvm]; exact State.WarmedH.refl s
  have hat' : ∀ w ∈ vx_atS own ic cls names, w.before args s' = true := fun w hw => vx_ot_at hW0 hvm.symm (hgood w (List.mem_cons_of_mem _ (List.mem_cons_of_mem _ hw))) (hat w hw)
  have hk' : (Cond.classLink own ik cls).before args s' = true := vx_ot_at hW0 hvm.symm (hgood _ List.mem_cons_self) hk
  have hini' : (Cond.initialized cls).before args s' = true := vx_ot_at hW0 hvm.symm (hgood _ (List.mem_cons_of_mem _ List.mem_cons_self)) hini
  have hU' : vx_Zq Bundle.tN "UNASSIGNED_STACK" Bundle.steD A s' s'.heap := by rw [hhp]; exact vx_Zq.moved hW0.alike (hU.kept hS.2.1)
  have hN' : vx_Zq Bundle.tN "SUPPRESSED_SENTINEL" Bundle.listD A s' s'.heap := by rw [hhp]; exact vx_Zq.moved hW0.alike (hN.kept hS.2.1)
  have h : ∀ w ∈ Bundle.ownAtoms own ic cls names, w.before args s' = true := vx_own hat' (vx_isRefq hU'.1) (vx_isRefq hN'.1) hU'.2.word hN'.2.word
  have hown' : s'.vm.findClass own = some m.cls := by rw [hvm]; exact hown
  have hins : (Cond.instantiable cls 6).before args s' = true := h _ (by simp [Bundle.ownAtoms])
  obtain ⟨vm₁, cX, kX, hfX, hkX, -, -, X₁, st1⟩ := Y.newCold hexec (own := own) (C := cls) (index := ik) (n := 6) hown' hk' hins hini'
    (g := F0 m pc ls rest) rfl (by rw [hb]; exact d0) (Nat.le_refl _) (Nat.le_refl _)
  generalize hT1 : (T.setVm vm₁).pushCell { cls := cX, slots := kX.instanceTypes.map defaultValue, vm := .none } = T1 at X₁ st1
  have hcat : (Value.ref T.heap.size).category = 1 := rfl
  have hcellA : T1.heap[T.heap.size]? = some (freshCell cX kX) := by rw [← hT1]; exact State.heap_pushCell_size _ _
  have d3' : decode c.code (pc + 3) = .ok (.dup, 1) := by rw [hb]; exact d3
  have d4' : decode c.code (pc + 4) = .ok (.ldc_w is, 3) := by rw [hb]; exact d4
  have hstr' : vk_R own is text sa s' := vk_R.warm hW0 hstr
  obtain ⟨U, hsteps, hrun, hend, hW, hsame, ce, hce, hO⟩ := X₁.ctorThrowS hexec htr (own := own) (cls := cls) (names := names) (ic := ic) hown' hcls hnames h (fun x hx => nomatch hx) hfX hkX hcellA (by rw [hhp, hT]; exact Nat.le_refl _) (msg := .ref sa) rfl
    (g := { method := m, pc := pc + 7, locals := ls, stack := .ref sa :: .ref T.heap.size :: .ref T.heap.size :: rest, locked := none }) rfl hsize rfl rfl (rest := rest) rfl
    (by rw [hb]; exact d7) (by rw [hb]; exact d10) hout hRframes (by simp only [List.map_cons, List.sum_cons, hcat]; omega) hlocks
  obtain ⟨f1, f2⟩ := vx_frame hsame
  rw [hhp] at f1 f2
  have hWs : s.WarmedH U.vm := State.WarmedH.trans hW0 hW
  have hcl : s.vm.findClass cls = some ce.cls := by
    have h9 := hO.cls
    rw [hvm] at h9
    exact h9
  have hall : s.sameButNew ({ U with vm := s.vm } : State) locs mc ms := by
    subst hA
    obtain ⟨e1, e2⟩ := hsame
    rw [State.setFrames_setFrames] at e1
    have h2 : (T.setVm s.vm).sameButNew ({ U with vm := s.vm } : State) [] (0 + 1) (0 + 6) := ⟨e1, e2⟩
    have h3 := X.same.trans h2
    rw [List.append_nil] at h3
    exact h3.mono hc hs
  refine ⟨U, ?_, .threw T.heap.size, hrun, hend, Or.inr ⟨T.heap.size, rfl, cls, ce, locs, hx U hWs.alike f1 (fun q hq => f2 q hq (fun z hz => nomatch hz)), hce, hO.vm, hcl, hWs, hall, hf⟩⟩
  refine st1 _ ?_
  show Steps p.tables e below (T1.setTop { method := m, pc := pc + 3, locals := ls, stack := .ref T.heap.size :: rest, locked := none }) _
  jvm_step X₁.here [X₁.here.top, hexec, d3', Value.category]
  exact X₁.ldcStringW hexec (own := own) (text := text) (index := is) (a := sa) hown' hstr'.1 hstr'.2
    (g := { method := m, pc := pc + 4, locals := ls, stack := .ref T.heap.size :: .ref T.heap.size :: rest, locked := none }) rfl d4' _ hsteps
end Ends
section Bodies
variable {l : Launch}
theorem vx_ofW {y : MethodName} {ws ws' : List Cond} {rm : Room} {Pc : Array Value → State → Prop} {Qc : Array Value → State → Outcome → State → Prop} {XC : String → State → State → Prop} {mc ms : Nat} {free : Addr → Prop} {cc : ByteArray} {maxL : Nat} {ret : Option FieldType}
    (hy : plainName y.cls = true) (hw : ws = Cond.code y cc maxL ret :: ws')
    (body : ∀ p e s m args below meth c s₁, BodyLoose p l y (headSpec ws rm) cc maxL ret e s m args below meth c s₁ → c.maxLocals = maxL → (∀ x ∈ c.exceptionTable.toList, False) → Pc args s →
      W p l e (headSpec ws rm).room s m args below meth c s.heap [] 0 0 (vx_MQ below Qc XC args s mc ms free) (entryFrame m args maxL)) : vx_Met l y ws rm Pc Qc XC mc ms free := by
  refine MetFree.of_bodyS (code := cc) (maxLocals := maxL) (ret := ret) hy ?_ ?_
  · intro args s m h hn
    obtain ⟨meth, c, h1, h2, h3, h4, h5, h6, -, -⟩ := Cond.code_spec hn (atoms_spec (ws := ws) h _ (by rw [hw]; exact List.mem_cons_self))
    exact ⟨meth, c, h1, h2, h3, h4, h5, h6⟩
  · intro p e s m args below meth c s₁ B hml hP _
    have hh0 : s₁.heap = s.heap := by rw [B.state]; rfl
    have ht : ∀ x ∈ c.exceptionTable.toList, False := by
      obtain ⟨meth9, c9, h1, h2, -, -, -, -, h7, -⟩ := Cond.code_spec B.named (atoms_spec (ws := ws) B.pre _ (by rw [hw]; exact List.mem_cons_self))
      cases Option.some.inj (h1.symm.trans B.method)
      cases Option.some.inj (h2.symm.trans (Stand.of_body B).code)
      intro x hx
      rw [Array.isEmpty_iff.mp h7] at hx
      cases hx
    obtain ⟨t, a1, o, b1, b2, b3⟩ := body p e s m args below meth c s₁ B hml ht hP s₁ hh0 (Stand.of_body B)
    exact ⟨t, o, a1, b1, b2, b3⟩
/-- the table of a body with handlers -/
theorem vx_table {p : Program} {x y : MethodName} {S : Spec} {cc bytes : ByteArray} {maxL maxL' : Nat} {ret ret' : Option FieldType} {e : Env} {s s₁ : State} {m : MethodId} {args : Array Value} {below : List Frame} {meth : Method} {c : Code} {hh : List (Nat × Nat × Nat × Nat)}
    (B : BodyLoose p l y S cc maxL ret e s m args below meth c s₁) (h : (Cond.codeWith y bytes maxL' ret' hh).before args s = true) : c.exceptionTable.toList = tableOf hh := by
  obtain ⟨m9, meth9, c9, hn9, h1, h2, -, -, h6, -⟩ := Cond.codeWith_spec h
  cases Option.some.inj (hn9.symm.trans B.named)
  cases Option.some.inj (h1.symm.trans B.method)
  cases Option.some.inj (h2.symm.trans (Stand.of_body B).code)
  rw [← h6, table_eq]
end Bodies
end VXA
/-! ===== END ===== -/
/-! ===== BEGIN a static call of a method with an exception table ===== -/
section VXS
variable {p : Program} {l : Launch} {e : Env} {R : Room} {s : State} {m : MethodId} {args : Array Value} {below : List Frame} {meth : Method} {c : Code} {T : State} {H : Heap} {locs : List Loc} {cells slots : Nat}
abbrev vx_CSW (R : Room) (s : State) (args : Array Value) (own : String) (index : Nat) (y : MethodName) (bytes : ByteArray) (maxL : Nat) (ret : Option FieldType) (hh : List (Nat × Nat × Nat × Nat)) (ws : List Cond) (rm : Room) (mc ms n : Nat) : Prop :=
  (rm.cells = mc ∧ rm.slots = ms ∧ rm.frames + 1 ≤ R.frames ∧ 8 + (maxL + 11) + rm.locals ≤ R.locals ∧ (∀ w ∈ ws, ∀ (a' : Array Value) (U : State), s.WarmedH U.vm → w.before a' U = true) ∧ Cond.codeWith y bytes maxL ret hh ∈ ws) ∧
  (Cond.codeWith y bytes maxL ret hh).before args s = true ∧ (Cond.initialized y.cls).before args s = true ∧ (y.cls ≠ "java/lang/invoke/MethodHandle" ∧ y.cls ≠ "java/lang/invoke/VarHandle") ∧
  (∀ sig, parseMethodDescriptor y.desc = some sig → n = sig.parameters.length) ∧ (Cond.methodLink own index y).before args s = true ∧ (Cond.static y).before args s = true
theorem vx_cwSW {own : String} {index maxL mc ms : Nat} {y : MethodName} {bytes : ByteArray} {ret : Option FieldType} {hh : List (Nat × Nat × Nat × Nat)} {Ts ws ws' : List Cond} {rm : Room} (n : Nat) (ht : ∀ w ∈ Ts, w.before args s = true) (hT : GoodIn Ts (va_wsS own index y ws)) (hw : ws = Cond.codeWith y bytes maxL ret hh :: ws') (hrc : rm.cells = mc) (hrs : rm.slots = ms)
    (hd : y.cls ≠ "java/lang/invoke/MethodHandle" ∧ y.cls ≠ "java/lang/invoke/VarHandle" ∧ (parseMethodDescriptor y.desc).map (fun d => d.parameters.length) = some n) (hR : rm.frames + 1 ≤ R.frames ∧ 8 + (maxL + 11) + rm.locals ≤ R.locals) :
    vx_CSW R s args own index y bytes maxL ret hh ws rm mc ms n := by
  have ok : ∀ w ∈ va_wsS own index y ws, w.before args s = true := fun w h => ht w (hT w h).1
  have hG : GoodIn Ts ws := fun w h => hT w (by unfold va_wsS; exact List.mem_append_right _ h)
  have hc : Cond.codeWith y bytes maxL ret hh ∈ ws := by rw [hw]; exact List.mem_cons_self
  refine ⟨⟨hrc, hrs, hR.1, hR.2, pay_in ht hG, hc⟩, ht _ (hG _ hc).1, ok _ (by simp [va_wsS]), ⟨hd.1, hd.2.1⟩, fun sig h => ?_, ok _ (by simp [va_wsS]), ok _ (by simp [va_wsS])⟩
  have h2 := hd.2.2
  rw [h] at h2
  exact (Option.some.inj h2).symm
theorem vx_callSW (X : Stand p l e R s m args below meth c T locs cells slots) (hexec : p.tables.exec = Jvm.exec) {own : String} {index : Nat} {y : MethodName} {bytes : ByteArray} {maxL : Nat} {ret : Option FieldType} {hh : List (Nat × Nat × Nat × Nat)}
    (hown : s.vm.findClass own = some m.cls) (hlink : (Cond.methodLink own index y).before args s = true) (hstat : (Cond.static y).before args s = true) (hinit : (Cond.initialized y.cls).before args s = true)
    (hcode : (Cond.codeWith y bytes maxL ret hh).before args s = true) (hy : y.cls ≠ "java/lang/invoke/MethodHandle" ∧ y.cls ≠ "java/lang/invoke/VarHandle")
    {W9 : Nat} {Pre : Pt → Array Value → Prop} {Post : Pt → Array Value → Option Value → Pt → Prop} (hK : Back l R p e below s args y 3 W9 Pre Post)
    {g : JFrame} (hg : g.method = m) (hsize : g.locals.size = c.maxLocals) {argsL rest : List Value} (hlen : ∀ sig, parseMethodDescriptor y.desc = some sig → argsL.length = sig.parameters.length)
    (hstack : g.stack = argsL.reverse ++ rest) (hW : 2 * g.monitorRoom + (rest.map fun v => v.category).sum ≤ W9) (hdg : decode c.code g.pc = .ok (.invokestatic index, 3))
    (hpre : ∀ vm₁, s.WarmedH vm₁ → Pre ⟨T.setVm vm₁, locs, cells, slots⟩ argsL.toArray) :
    ∃ (v : Option Value) (vm₁ : Vm) (B : Pt), s.WarmedH vm₁ ∧ Stand p l e R s m args below meth c B.U B.locs B.cells B.slots ∧ Post ⟨T.setVm vm₁, locs, cells, slots⟩ argsL.toArray v B ∧
      ∀ target, Steps p.tables e below (B.U.setTop { g with pc := g.pc + 3, stack := v.toList ++ rest }) target → Steps p.tables e below (T.setTop g) target := by
  obtain ⟨mk, methM, cM, hnamed, hmethM, -, -, -, -, -, -, hsigM⟩ := Cond.codeWith_spec hcode
  have hstatic : methM.isStatic = true := Cond.static_spec hnamed hmethM hstat
  obtain ⟨kP, hkP, -⟩ := className_of_methodNamed hnamed
  have hinitP : kP.init = .initialized := Cond.initialized_spec (findClass_of_methodNamed hnamed) hkP hinit
  obtain ⟨vm₁, X₁, hstep₁⟩ := X.invokestatic hexec hown hlink hnamed hmethM hstatic hkP hinitP hy (g := g) hg (argsL := argsL) (rest := rest) (hlen _ hsigM) hstack hdg
  obtain ⟨v, B, X', hpost, hsteps⟩ := hK m meth c ⟨T.setVm vm₁, locs, cells, slots⟩ { g with stack := rest } (.invokestatic index) mk argsL.toArray X₁ hg hsize hdg hW (X₁.named hnamed) (hpre vm₁ X₁.warmed)
  exact ⟨v, vm₁, B, X₁.warmed, X', hpost, fun target h => hstep₁ _ fun acts => by rw [doInvoke_state]; exact hsteps.trans h⟩
theorem vx_runSW {y : MethodName} {bytes cc : ByteArray} {maxL nL mc ms n index : Nat} {ret : Option FieldType} {hh : List (Nat × Nat × Nat × Nat)} {ws : List Cond} {rm : Room} {Pc : Array Value → State → Prop} {Qc : Array Value → State → Outcome → State → Prop} {free : Addr → Prop} {Ts : List Cond} {own : String} {As rest : List Value} {g : JFrame}
    (S : CallFix p m c cc nL s args Ts own) (hM : Met l y ws rm Pc Qc mc ms free) (cw : vx_CSW R s args own index y bytes maxL ret hh ws rm mc ms n) (hp : PreS s H Pc As)
    (hg : g.method = m) (hn : As.length = n) (hsize : g.locals.size = nL) (hstack : g.stack = As.reverse ++ rest) (hW : 2 * g.monitorRoom + (rest.map fun v => v.category).sum ≤ 8) (hdg : decode cc g.pc = .ok (.invokestatic index, 3)) (hf : cells + mc ≤ R.cells ∧ slots + ms ≤ R.slots) :
    va_Run p l e R s m args below meth c H locs cells slots mc ms g rest (Qc As.toArray) (free) := by
  obtain ⟨⟨hrc, hrs, hfr, hlo, hws, hcw⟩, hcode, hini, hy, hlen, hl, hstt⟩ := cw
  have hK : Back l R p e below s args y 3 8 (PreOf R mc ms Pc) (PostOf Qc mc ms free) := va_backW (hh := hh) (bytes := bytes) (maxL := maxL) (ret := ret) hM hp.1 hrc hrs hfr hlo hws hcw (fun a' U hW => word_at hW (Or.inl (by first | rfl | simp [Cond.onTables, Cond.keeps, Cond.steady])) hini)
  obtain ⟨hx, hb, hml, ho, -⟩ := S
  intro T hT X
  obtain ⟨v, vm₁, ⟨U', l2, c2, s2⟩, hW₁, X', ⟨g', mk, t, L, e1, e2, hq, h1, hL, h2, h3⟩, st⟩ := vx_callSW X hx (hh := hh) (bytes := bytes) (maxL := maxL) (ret := ret) ho hl hstt hini hcode hy hK hg (hsize.trans hml.symm) (argsL := As) (rest := rest) (fun sig h => hn.trans (hlen sig h)) hstack hW (by rw [hb]; exact hdg)
    (fun vm₁ hW₁ => ⟨hf.1, hf.2, hp.2 (T.setVm vm₁) hT hW₁⟩)
  dsimp only [Pt.U, Pt.locs, Pt.cells, Pt.slots] at X' e1 e2 h1 h2 h3 st
  subst h1; subst h2; subst h3
  exact ⟨v, (T.setVm vm₁).calling g' mk As.toArray, t, U', L, hT, X', hL, e1, e2, hq, st⟩
/-- not caught here, past rows that name other classes: it goes on to the caller -/
theorem vx_outP {p : Program} {l : Launch} {e : Env} {R : Room} {s : State} {m : MethodId} {args : Array Value} {below : List Frame} {meth : Method} {c : Code} {H : Heap} {locs : List Loc} {cells slots : Nat} {free : Addr → Prop} {ls : Array Slot} {rest : List Value} {Qc : Array Value → State → Outcome → State → Prop} {XC : String → State → State → Prop}
    {pc : Nat} {own E : String} {ce : Cell} {q : Addr} {mc ms : Nat} (hown : s.vm.findClass own = some m.cls) (hlocks : meth.locks = false)
    (hpass : ∀ z ∈ c.exceptionTable.toList, covers z pc = false ∨ (z.catchType ≠ 0 ∧ ∃ nm : String, (Cond.classLink own z.catchType nm).before args s = true ∧ va_Nc E nm s)) (hcell : H[q]? = some ce) (hv : ce.vm = .none) (hcl : s.vm.findClass E = some ce.cls)
    (hx : ∀ t : State, t.heap = H → s.vm.Alike t.vm → XC E s t) (hf : ∀ z ∈ locs, free z.base) (hc : cells ≤ mc) (hs : slots ≤ ms) :
    vx_W p l e R s m args below meth c H locs cells slots (vx_MQ below Qc XC args s mc ms free) (F0 m pc ls rest) q := by
  intro T hT X
  have hpl : e.platform.magicAccessors = ({} : Platform).magicAccessors := by rw [X.admits.platform]
  obtain ⟨vm', hW', X', st⟩ := X.outThrough hlocks q (g := F0 m pc ls rest) rfl rfl rfl (cell := ce) (by rw [hT]; exact hcell) (by rw [hv]; rfl)
    (by obtain ⟨k9, h9, -⟩ := Vm.findClass_spec hcl; exact ⟨k9, h9⟩) (fun z hz => by
      rcases hpass z hz with h | ⟨hz0, nm, hl1, hn1⟩
      · exact Or.inl h
      · obtain ⟨c6, hc6, hcl6⟩ := Cond.classLink_spec hown hl1 e.platform hpl
        obtain ⟨a8, b8, h1, h2, h3⟩ := hn1
        cases Option.some.inj (h1.symm.trans hcl)
        cases Option.some.inj (h2.symm.trans hc6)
        exact Or.inr ⟨hz0, _, hcl6, h3⟩)
  obtain ⟨g₀, hfr⟩ := X'.frames_eq
  have hcell9 : ((T.setVm vm').setFrames (.throwing q :: below)).heap[q]? = some ce := by
    show T.heap[q]? = some ce
    rw [hT]; exact hcell
  have hend : Ended ((T.setVm vm').setFrames (.throwing q :: below)) below (.threw q) := State.frames_setFrames _ (State.cur_lt_of_frames hfr)
  refine ⟨(T.setVm vm').setFrames (.throwing q :: below), ?_, .threw q, X'.here.running, hend, Or.inr ⟨q, rfl, E, ce, locs, hx _ hT (X'.ends _).1.alike, hcell9, hv, hcl, (X'.ends _).1, (X'.ends _).2.mono hc hs, hf⟩⟩
  rw [X.pushThrowing_eq]
  exact st
/-- a thing of a world lies in the heap -/
theorem vx_lt {D : va_G} {cl : List vw_C} {ws : va_W} {H1 : Heap} (h : va_P D cl ws H1) {k : Nat} {q : Nat × va_E} (hk : ws[k]? = some q) : q.1 < H1.size := (h k q hk).lt
end VXS
/-! ===== END ===== -/
/-! ===== BEGIN methods with a table of their own: called by a name, returning or throwing ===== -/
section VXH
/-! vx_backW, vx_callVX, vx_callSX, vx_callVW, vx_runVW, vx_runVX, vx_runSX, vx_ofWH follow the same proofs as their sisters above (Free/Laws.lean, Shelf42/LK1.lean); vx_outP calls Shelf42/NT130.lean (outThrough). -/
section
variable {l : Launch} {R : Room} {p : Program} {e : Env} {below : List Frame} {s : State} {sargs : Array Value} {y : MethodName} {len W9 : Nat}
theorem vx_backW {ws : List Cond} {rm : Room} {Pc : Array Value → State → Prop} {Qc : Array Value → State → Outcome → State → Prop} {XC : String → State → State → Prop} {mc ms : Nat} {free : Addr → Prop} {bytes : ByteArray} {maxL : Nat} {ret : Option FieldType} {hh : List (Nat × Nat × Nat × Nat)}
    (hM : vx_Met l y ws rm Pc Qc XC mc ms free) (hblind : FrameBlind Pc) (hrc : rm.cells = mc) (hrs : rm.slots = ms)
    (hframes : rm.frames + 1 ≤ R.frames) (hlocals : W9 + (maxL + 11) + rm.locals ≤ R.locals)
    (hws : ∀ w ∈ ws, ∀ a' U, s.WarmedH U.vm → w.before a' U = true) (hcode : Cond.codeWith y bytes maxL ret hh ∈ ws) (hinit : ∀ a' U, s.WarmedH U.vm → (Cond.initialized y.cls).before a' U = true) :
    vx_Back l R p e below s sargs y len W9 (PreOf R mc ms Pc) (PostOf Qc mc ms free) (vx_Post XC mc ms free) := by
  intro m meth c A g ig mk a X hg hsize hdg hW hn hp
  have h1 : (headSpec ws rm).pre.before a A.U = true := atoms_intro fun w hw => hws w hw _ _ X.warmed
  have h2 : (Cond.codeWith y bytes maxL ret hh).before a A.U = true := hws _ hcode _ _ X.warmed
  have h3 : (Cond.initialized y.cls).before a A.U = true := hinit _ _ X.warmed
  have h4 : A.cells + (headSpec ws rm).room.cells ≤ R.cells := by rw [show (headSpec ws rm).room.cells = mc from hrc]; exact hp.1
  have h5 : A.slots + (headSpec ws rm).room.slots ≤ R.slots := by rw [show (headSpec ws rm).room.slots = ms from hrs]; exact hp.2.1
  have hPc : Pc a (A.U.calling g mk a) := hblind _ _ _ _ hp.2.2
  obtain ⟨U, Ls, c0, s0⟩ := A
  dsimp only [Pt.U, Pt.locs, Pt.cells, Pt.slots] at h1 h2 h3 h4 h5 X hn hPc ⊢
  obtain ⟨m9, methY, cY, hn9, hmY, hcY, -, hlY, -⟩ := Cond.codeWith_spec h2
  cases Option.some.inj (hn9.symm.trans hn)
  obtain ⟨kY, hkY, -⟩ := className_of_methodNamed hn
  have hinitY : kY.init = .initialized := Cond.initialized_spec (findClass_of_methodNamed hn) hkY h3
  have h : At U g.method c below := by rw [hg]; exact X.here
  have hlocals9 : W9 + (maxL + 11) + (headSpec ws rm).room.locals ≤ R.locals := hlocals
  have happ : (headSpec ws rm).appliesLoose y e.platform (U.calling g mk a) = true :=
    Spec.appliesLoose_calling (g := g) h hdg hn hkY hinitY
      (X.room_calling (g := g) (R' := (headSpec ws rm).room) hsize hmY hcY hframes (by rw [hlY]; omega) h4 h5) h1
  obtain ⟨mid, hmid⟩ := h.above
  have hfr : (U.setTop g).frames = (.java g :: mid) ++ below := by rw [State.frames_setTop' g h.top, hmid]; rfl
  obtain ⟨o, s₂, hsteps, -, hend, hq⟩ := Steps.callFree hM p X.admits X.cas X.clock (acts := []) hfr happ hPc trivial
  have hq' : vx_Q Qc XC mc ms free a (U.calling g mk a) o s₂ := hq
  rw [State.frames_setTop' g h.top] at hend
  obtain ⟨g₀, hg0⟩ := Option.isSome_iff_exists.mp h.top
  obtain ⟨r, hr⟩ := State.topJava?_eq_some.mp hg0
  have hr' : (({ U with heap := s₂.heap, slotsUsed := s₂.slotsUsed } : State).setVm s₂.vm).frames = .java g₀ :: r := hr
  rcases hq' with ⟨hqc, L, hfe, hL⟩ | ⟨q, rfl, E, ce, L, hx, hce, hcv, hcl, hW₂, hsm, hL⟩
  · obtain ⟨⟨v, rfl⟩, hW₂, e2, q2, q3, q4, q5, q6⟩ := id hfe
    have e3 : s₂ = ({ (U.calling g mk a).setFrames s₂.frames with heap := s₂.heap, slotsUsed := s₂.slotsUsed } : State).setVm s₂.vm := by
      have : s₂ = ({ s₂ with vm := (U.calling g mk a).vm } : State).setVm s₂.vm := rfl
      rw [e2] at this
      exact this
    obtain ⟨c₂, i₂, len₂, hc₂, hd₂, hf₂⟩ := hend
    have hW' : U.WarmedH s₂.vm := hW₂
    have hcc : c₂ = c := by
      have h1 : s₂.code? g.method = U.code? g.method := by
        rw [State.code?_eq, State.code?_eq, hW'.alike.method?]
      exact Option.some.inj (hc₂.symm.trans (h1.trans h.code))
    subst hcc
    have hlen : len₂ = len := by rw [hdg] at hd₂; cases hd₂; rfl
    subst hlen
    have hs₂ : s₂ = (({ U with heap := s₂.heap, slotsUsed := s₂.slotsUsed } : State).setVm s₂.vm).setTop { g with pc := g.pc + len₂, stack := v.toList ++ g.stack } := by
      refine e3.trans ?_
      rw [hf₂, State.calling_eq h.top, State.setFrames_setFrames, State.setTop_of_frames _ hr', hr]
      rfl
    have hsame : U.sameButNew ({ U with heap := s₂.heap, slotsUsed := s₂.slotsUsed } : State) L mc ms := by
      refine ⟨?_, q2, q3, q4, q5, q6⟩
      obtain ⟨t, ht, -⟩ := State.frames_cons hr
      show ({ U with heap := s₂.heap, slotsUsed := s₂.slotsUsed } : State) = { U.setFrames U.frames with heap := s₂.heap, slotsUsed := s₂.slotsUsed }
      rw [State.setFrames_self ht]
    subst hg
    refine Or.inl ⟨v, ⟨(({ U with heap := s₂.heap, slotsUsed := s₂.slotsUsed } : State).setVm s₂.vm), Ls ++ L, c0 + mc, s0 + ms⟩,
      ⟨X.admits, X.cas, X.clock, X.frames, X.room, X.hears, X.method, X.code, (X.here.setHeapUsed s₂.heap s₂.slotsUsed).setVm hW'.alike, X.tail, State.WarmedH.trans X.warmed hW', X.limits, X.bytes, X.same.trans (hsame.setVm s.vm)⟩,
      ⟨g, mk, s₂, L, rfl, rfl, hqc, rfl, hL, rfl, rfl⟩, ?_⟩
    show Steps p.tables e below _ ((({ U with heap := s₂.heap, slotsUsed := s₂.slotsUsed } : State).setVm s₂.vm).setTop { g with pc := g.pc + len₂, stack := v.toList ++ g.stack })
    rw [← hs₂]
    exact hsteps
  · obtain ⟨e2, q2, q3, q4, q5, q6⟩ := id hsm
    have e3 : s₂ = ({ (U.calling g mk a).setFrames s₂.frames with heap := s₂.heap, slotsUsed := s₂.slotsUsed } : State).setVm s₂.vm := by
      have : s₂ = ({ s₂ with vm := (U.calling g mk a).vm } : State).setVm s₂.vm := rfl
      rw [e2] at this
      exact this
    have hf₂ : s₂.frames = .throwing q :: .java g :: U.frames.tail := hend
    have hW' : U.WarmedH s₂.vm := hW₂
    have hs₂ : s₂ = ((({ U with heap := s₂.heap, slotsUsed := s₂.slotsUsed } : State).setVm s₂.vm).setTop g).pushFrame (.throwing q) := by
      refine e3.trans ?_
      rw [hf₂, State.calling_eq h.top, State.setFrames_setFrames, State.pushFrame, State.frames_setTop _ hr', State.setTop_of_frames _ hr', State.setFrames_setFrames, hr]
      rfl
    have hsame : U.sameButNew ({ U with heap := s₂.heap, slotsUsed := s₂.slotsUsed } : State) L mc ms := by
      refine ⟨?_, q2, q3, q4, q5, q6⟩
      obtain ⟨t, ht, -⟩ := State.frames_cons hr
      show ({ U with heap := s₂.heap, slotsUsed := s₂.slotsUsed } : State) = { U.setFrames U.frames with heap := s₂.heap, slotsUsed := s₂.slotsUsed }
      rw [State.setFrames_self ht]
    subst hg
    refine Or.inr ⟨q, ⟨(({ U with heap := s₂.heap, slotsUsed := s₂.slotsUsed } : State).setVm s₂.vm), Ls ++ L, c0 + mc, s0 + ms⟩,
      ⟨X.admits, X.cas, X.clock, X.frames, X.room, X.hears, X.method, X.code, (X.here.setHeapUsed s₂.heap s₂.slotsUsed).setVm hW'.alike, X.tail, State.WarmedH.trans X.warmed hW', X.limits, X.bytes, X.same.trans (hsame.setVm s.vm)⟩,
      ⟨g, mk, s₂, L, E, ce, rfl, rfl, hx, hce, hcv, hcl, rfl, hL, rfl, rfl⟩, ?_⟩
    show Steps p.tables e below _ (((({ U with heap := s₂.heap, slotsUsed := s₂.slotsUsed } : State).setVm s₂.vm).setTop g).pushFrame (.throwing q))
    rw [← hs₂]
    exact hsteps
end
variable {p : Program} {l : Launch} {e : Env} {R : Room} {s : State} {m : MethodId} {args : Array Value} {below : List Frame} {meth : Method} {c : Code} {T : State} {H : Heap} {locs : List Loc} {cells slots : Nat}
theorem vx_callVX (X : Stand p l e R s m args below meth c T locs cells slots) (hexec : p.tables.exec = Jvm.exec) {own C : String} {index : Nat} {y : MethodName} {bytes : ByteArray} {maxL : Nat} {ret : Option FieldType} {hh : List (Nat × Nat × Nat × Nat)}
    (hown : s.vm.findClass own = some m.cls) (hlink : (Cond.methodLink own index y).before args s = true) (hinst : (Cond.instanceMethod y).before args s = true) (hsel : (Cond.selects C y y).before args s = true)
    (hcode : (Cond.codeWith y bytes maxL ret hh).before args s = true) (hy : y.cls ≠ "java/lang/invoke/MethodHandle" ∧ y.cls ≠ "java/lang/invoke/VarHandle")
    {W9 : Nat} {Pre : Pt → Array Value → Prop} {Post : Pt → Array Value → Option Value → Pt → Prop} {PostX : Pt → Array Value → Addr → Pt → Prop} (hK : vx_Back l R p e below s args y 3 W9 Pre Post PostX)
    {b : Addr} {cellB : Cell} (hcell : T.heap[b]? = some cellB) (hobj : cellB.vm.isStatics = false) (hcls : s.vm.findClass C = some cellB.cls)
    {g : JFrame} (hg : g.method = m) (hsize : g.locals.size = c.maxLocals) {argsL rest : List Value} (hlen : ∀ sig, parseMethodDescriptor y.desc = some sig → argsL.length = sig.parameters.length)
    (hstack : g.stack = argsL.reverse ++ .ref b :: rest) (hW : 2 * g.monitorRoom + (rest.map fun v => v.category).sum ≤ W9) (hdg : decode c.code g.pc = .ok (.invokevirtual index, 3))
    (hpre : ∀ vm₁, s.WarmedH vm₁ → Pre ⟨T.setVm vm₁, locs, cells, slots⟩ (Value.ref b :: argsL).toArray) :
    (∃ (v : Option Value) (vm₁ : Vm) (B : Pt), s.WarmedH vm₁ ∧ Stand p l e R s m args below meth c B.U B.locs B.cells B.slots ∧ Post ⟨T.setVm vm₁, locs, cells, slots⟩ (Value.ref b :: argsL).toArray v B ∧
      ∀ target, Steps p.tables e below (B.U.setTop { g with pc := g.pc + 3, stack := v.toList ++ rest }) target → Steps p.tables e below (T.setTop g) target) ∨
    (∃ (q : Addr) (vm₁ : Vm) (B : Pt), s.WarmedH vm₁ ∧ Stand p l e R s m args below meth c B.U B.locs B.cells B.slots ∧ PostX ⟨T.setVm vm₁, locs, cells, slots⟩ (Value.ref b :: argsL).toArray q B ∧
      Steps p.tables e below (T.setTop g) ((B.U.setTop { g with stack := rest }).pushFrame (.throwing q))) := by
  obtain ⟨mk, methM, hnamed, hmethM, hstM, habM⟩ := Cond.instanceMethod_spec hinst
  obtain ⟨m8, methM', cM, hn8, hmethM', -, -, -, -, -, -, hsigM⟩ := Cond.codeWith_spec hcode
  cases Option.some.inj (hn8.symm.trans hnamed)
  cases hmethM.symm.trans hmethM'
  obtain ⟨c2, r2, m2, q1, q2, q3, q4, kP, hkP, hkPi⟩ := Cond.selects_spec hsel
  cases hcls.symm.trans q1
  cases (State.methodFound?_of_named hnamed hy).symm.trans q2
  cases hnamed.symm.trans q3
  have hselP : selectMethod e.platform s.vm cellB.cls mk = .method mk := by rw [Launch.admits_selectMethod X.admits]; exact q4
  obtain ⟨vm₁, X₁, hstep₁⟩ := X.invokevirtual hexec hown hlink hnamed hmethM hstM hkP hkPi hy (a := b) (cell := cellB) hcell
    (fun z h => by rw [h] at hobj; cases hobj) hselP hmethM habM hkP hkPi (g := g) hg (argsL := argsL) (rest := rest) (hlen _ hsigM) hstack hdg
  rcases hK m meth c ⟨T.setVm vm₁, locs, cells, slots⟩ { g with stack := rest } (.invokevirtual index) mk (Value.ref b :: argsL).toArray X₁ hg hsize hdg hW (X₁.named hnamed) (hpre vm₁ X₁.warmed) with ⟨v, B, X', hpost, hsteps⟩ | ⟨q, B, X', hpost, hsteps⟩
  · exact Or.inl ⟨v, vm₁, B, X₁.warmed, X', hpost, fun target h => hstep₁ _ fun acts => by rw [doInvoke_state]; exact hsteps.trans h⟩
  · exact Or.inr ⟨q, vm₁, B, X₁.warmed, X', hpost, hstep₁ _ fun acts => by rw [doInvoke_state]; exact hsteps⟩
theorem vx_callSX (X : Stand p l e R s m args below meth c T locs cells slots) (hexec : p.tables.exec = Jvm.exec) {own : String} {index : Nat} {y : MethodName} {bytes : ByteArray} {maxL : Nat} {ret : Option FieldType} {hh : List (Nat × Nat × Nat × Nat)}
    (hown : s.vm.findClass own = some m.cls) (hlink : (Cond.methodLink own index y).before args s = true) (hstat : (Cond.static y).before args s = true) (hinit : (Cond.initialized y.cls).before args s = true)
    (hcode : (Cond.codeWith y bytes maxL ret hh).before args s = true) (hy : y.cls ≠ "java/lang/invoke/MethodHandle" ∧ y.cls ≠ "java/lang/invoke/VarHandle")
    {W9 : Nat} {Pre : Pt → Array Value → Prop} {Post : Pt → Array Value → Option Value → Pt → Prop} {PostX : Pt → Array Value → Addr → Pt → Prop} (hK : vx_Back l R p e below s args y 3 W9 Pre Post PostX)
    {g : JFrame} (hg : g.method = m) (hsize : g.locals.size = c.maxLocals) {argsL rest : List Value} (hlen : ∀ sig, parseMethodDescriptor y.desc = some sig → argsL.length = sig.parameters.length)
    (hstack : g.stack = argsL.reverse ++ rest) (hW : 2 * g.monitorRoom + (rest.map fun v => v.category).sum ≤ W9) (hdg : decode c.code g.pc = .ok (.invokestatic index, 3))
    (hpre : ∀ vm₁, s.WarmedH vm₁ → Pre ⟨T.setVm vm₁, locs, cells, slots⟩ argsL.toArray) :
    (∃ (v : Option Value) (vm₁ : Vm) (B : Pt), s.WarmedH vm₁ ∧ Stand p l e R s m args below meth c B.U B.locs B.cells B.slots ∧ Post ⟨T.setVm vm₁, locs, cells, slots⟩ argsL.toArray v B ∧
      ∀ target, Steps p.tables e below (B.U.setTop { g with pc := g.pc + 3, stack := v.toList ++ rest }) target → Steps p.tables e below (T.setTop g) target) ∨
    (∃ (q : Addr) (vm₁ : Vm) (B : Pt), s.WarmedH vm₁ ∧ Stand p l e R s m args below meth c B.U B.locs B.cells B.slots ∧ PostX ⟨T.setVm vm₁, locs, cells, slots⟩ argsL.toArray q B ∧
      Steps p.tables e below (T.setTop g) ((B.U.setTop { g with stack := rest }).pushFrame (.throwing q))) := by
  obtain ⟨mk, methM, cM, hnamed, hmethM, -, -, -, -, -, -, hsigM⟩ := Cond.codeWith_spec hcode
  have hstatic : methM.isStatic = true := Cond.static_spec hnamed hmethM hstat
  obtain ⟨kP, hkP, -⟩ := className_of_methodNamed hnamed
  have hinitP : kP.init = .initialized := Cond.initialized_spec (findClass_of_methodNamed hnamed) hkP hinit
  obtain ⟨vm₁, X₁, hstep₁⟩ := X.invokestatic hexec hown hlink hnamed hmethM hstatic hkP hinitP hy (g := g) hg (argsL := argsL) (rest := rest) (hlen _ hsigM) hstack hdg
  rcases hK m meth c ⟨T.setVm vm₁, locs, cells, slots⟩ { g with stack := rest } (.invokestatic index) mk argsL.toArray X₁ hg hsize hdg hW (X₁.named hnamed) (hpre vm₁ X₁.warmed) with ⟨v, B, X', hpost, hsteps⟩ | ⟨q, B, X', hpost, hsteps⟩
  · exact Or.inl ⟨v, vm₁, B, X₁.warmed, X', hpost, fun target h => hstep₁ _ fun acts => by rw [doInvoke_state]; exact hsteps.trans h⟩
  · exact Or.inr ⟨q, vm₁, B, X₁.warmed, X', hpost, hstep₁ _ fun acts => by rw [doInvoke_state]; exact hsteps⟩
theorem vx_callVW (X : Stand p l e R s m args below meth c T locs cells slots) (hexec : p.tables.exec = Jvm.exec) {own C : String} {index : Nat} {y : MethodName} {bytes : ByteArray} {maxL : Nat} {ret : Option FieldType} {hh : List (Nat × Nat × Nat × Nat)}
    (hown : s.vm.findClass own = some m.cls) (hlink : (Cond.methodLink own index y).before args s = true) (hinst : (Cond.instanceMethod y).before args s = true) (hsel : (Cond.selects C y y).before args s = true)
    (hcode : (Cond.codeWith y bytes maxL ret hh).before args s = true) (hy : y.cls ≠ "java/lang/invoke/MethodHandle" ∧ y.cls ≠ "java/lang/invoke/VarHandle")
    {W9 : Nat} {Pre : Pt → Array Value → Prop} {Post : Pt → Array Value → Option Value → Pt → Prop} (hK : Back l R p e below s args y 3 W9 Pre Post)
    {b : Addr} {cellB : Cell} (hcell : T.heap[b]? = some cellB) (hobj : cellB.vm.isStatics = false) (hcls : s.vm.findClass C = some cellB.cls)
    {g : JFrame} (hg : g.method = m) (hsize : g.locals.size = c.maxLocals) {argsL rest : List Value} (hlen : ∀ sig, parseMethodDescriptor y.desc = some sig → argsL.length = sig.parameters.length)
    (hstack : g.stack = argsL.reverse ++ .ref b :: rest) (hW : 2 * g.monitorRoom + (rest.map fun v => v.category).sum ≤ W9) (hdg : decode c.code g.pc = .ok (.invokevirtual index, 3))
    (hpre : ∀ vm₁, s.WarmedH vm₁ → Pre ⟨T.setVm vm₁, locs, cells, slots⟩ (Value.ref b :: argsL).toArray) :
    ∃ (v : Option Value) (vm₁ : Vm) (B : Pt), s.WarmedH vm₁ ∧ Stand p l e R s m args below meth c B.U B.locs B.cells B.slots ∧ Post ⟨T.setVm vm₁, locs, cells, slots⟩ (Value.ref b :: argsL).toArray v B ∧
      ∀ target, Steps p.tables e below (B.U.setTop { g with pc := g.pc + 3, stack := v.toList ++ rest }) target → Steps p.tables e below (T.setTop g) target := by
  obtain ⟨mk, methM, hnamed, hmethM, hstM, habM⟩ := Cond.instanceMethod_spec hinst
  obtain ⟨m8, methM', cM, hn8, hmethM', -, -, -, -, -, -, hsigM⟩ := Cond.codeWith_spec hcode
  cases Option.some.inj (hn8.symm.trans hnamed)
  cases hmethM.symm.trans hmethM'
  obtain ⟨c2, r2, m2, q1, q2, q3, q4, kP, hkP, hkPi⟩ := Cond.selects_spec hsel
  cases hcls.symm.trans q1
  cases (State.methodFound?_of_named hnamed hy).symm.trans q2
  cases hnamed.symm.trans q3
  have hselP : selectMethod e.platform s.vm cellB.cls mk = .method mk := by rw [Launch.admits_selectMethod X.admits]; exact q4
  obtain ⟨vm₁, X₁, hstep₁⟩ := X.invokevirtual hexec hown hlink hnamed hmethM hstM hkP hkPi hy (a := b) (cell := cellB) hcell
    (fun z h => by rw [h] at hobj; cases hobj) hselP hmethM habM hkP hkPi (g := g) hg (argsL := argsL) (rest := rest) (hlen _ hsigM) hstack hdg
  obtain ⟨v, B, X', hpost, hsteps⟩ := hK m meth c ⟨T.setVm vm₁, locs, cells, slots⟩ { g with stack := rest } (.invokevirtual index) mk (Value.ref b :: argsL).toArray X₁ hg hsize hdg hW (X₁.named hnamed) (hpre vm₁ X₁.warmed)
  exact ⟨v, vm₁, B, X₁.warmed, X', hpost, fun target h => hstep₁ _ fun acts => by rw [doInvoke_state]; exact hsteps.trans h⟩
abbrev vx_CVW (R : Room) (s : State) (args : Array Value) (own C : String) (index : Nat) (y : MethodName) (bytes : ByteArray) (maxL : Nat) (ret : Option FieldType) (hh : List (Nat × Nat × Nat × Nat)) (ws : List Cond) (rm : Room) (mc ms n : Nat) : Prop :=
  (rm.cells = mc ∧ rm.slots = ms ∧ rm.frames + 1 ≤ R.frames ∧ 8 + (maxL + 11) + rm.locals ≤ R.locals ∧ (∀ w ∈ ws, ∀ (a' : Array Value) (U : State), s.WarmedH U.vm → w.before a' U = true) ∧ Cond.codeWith y bytes maxL ret hh ∈ ws) ∧
  (Cond.codeWith y bytes maxL ret hh).before args s = true ∧ (Cond.initialized y.cls).before args s = true ∧ (y.cls ≠ "java/lang/invoke/MethodHandle" ∧ y.cls ≠ "java/lang/invoke/VarHandle") ∧
  (∀ sig, parseMethodDescriptor y.desc = some sig → n = sig.parameters.length) ∧ (Cond.methodLink own index y).before args s = true ∧ (Cond.instanceMethod y).before args s = true ∧ (Cond.selects C y y).before args s = true
theorem vx_cwVW {own C : String} {index maxL mc ms : Nat} {y : MethodName} {bytes : ByteArray} {ret : Option FieldType} {hh : List (Nat × Nat × Nat × Nat)} {Ts ws ws' : List Cond} {rm : Room} (n : Nat) (ht : ∀ w ∈ Ts, w.before args s = true) (hT : GoodIn Ts (wsV own index C y ws)) (hw : ws = Cond.codeWith y bytes maxL ret hh :: ws') (hrc : rm.cells = mc) (hrs : rm.slots = ms)
    (hd : y.cls = C ∧ y.cls ≠ "java/lang/invoke/MethodHandle" ∧ y.cls ≠ "java/lang/invoke/VarHandle" ∧ (parseMethodDescriptor y.desc).map (fun d => d.parameters.length) = some n) (hR : rm.frames + 1 ≤ R.frames ∧ 8 + (maxL + 11) + rm.locals ≤ R.locals) :
    vx_CVW R s args own C index y bytes maxL ret hh ws rm mc ms n := by
  obtain ⟨hC, hd⟩ := hd
  subst hC
  have ok : ∀ w ∈ wsV own index y.cls y ws, w.before args s = true := fun w h => ht w (hT w h).1
  have hG : GoodIn Ts ws := fun w h => hT w (by unfold wsV; exact List.mem_append_right _ h)
  have hc : Cond.codeWith y bytes maxL ret hh ∈ ws := by rw [hw]; exact List.mem_cons_self
  refine ⟨⟨hrc, hrs, hR.1, hR.2, pay_in ht hG, hc⟩, ht _ (hG _ hc).1, ok _ (by simp [wsV]), ⟨hd.1, hd.2.1⟩, fun sig h => ?_, ok _ (by simp [wsV]), ok _ (by simp [wsV]), ok _ (by simp [wsV])⟩
  have h2 := hd.2.2
  rw [h] at h2
  exact (Option.some.inj h2).symm
theorem vx_runVW {y : MethodName} {bytes cc : ByteArray} {maxL nL mc ms n index : Nat} {ret : Option FieldType} {hh : List (Nat × Nat × Nat × Nat)} {ws : List Cond} {rm : Room} {Pc : Array Value → State → Prop} {Qc : Array Value → State → Outcome → State → Prop} {free : Addr → Prop} {Ts : List Cond} {own C : String} {b : Addr} {As rest : List Value} {g : JFrame}
    (S : CallFix p m c cc nL s args Ts own) (hM : Met l y ws rm Pc Qc mc ms free) (cw : vx_CVW R s args own C index y bytes maxL ret hh ws rm mc ms n) (hp : PreV s H C b Pc As)
    (hg : g.method = m) (hn : As.length = n) (hsize : g.locals.size = nL) (hstack : g.stack = As.reverse ++ .ref b :: rest) (hW : 2 * g.monitorRoom + (rest.map fun v => v.category).sum ≤ 8) (hdg : decode cc g.pc = .ok (.invokevirtual index, 3)) (hf : cells + mc ≤ R.cells ∧ slots + ms ≤ R.slots) :
    va_Run p l e R s m args below meth c H locs cells slots mc ms g rest (Qc (Value.ref b :: As).toArray) free := by
  obtain ⟨⟨hrc, hrs, hfr, hlo, hws, hcw⟩, hcode, hini, hy, hlen, hl, hin, hse⟩ := cw
  have hK : Back l R p e below s args y 3 8 (PreOf R mc ms Pc) (PostOf Qc mc ms free) := va_backW (hh := hh) (bytes := bytes) (maxL := maxL) (ret := ret) hM hp.1 hrc hrs hfr hlo hws hcw (fun a' U hW => word_at hW (Or.inl (by first | rfl | simp [Cond.onTables, Cond.keeps, Cond.steady])) hini)
  obtain ⟨hx, hb, hml, ho, -⟩ := S
  obtain ⟨-, ⟨cellB, hcB, hoB, hclB⟩, hPc⟩ := hp
  intro T hT X
  obtain ⟨v, vm₁, ⟨U', l2, c2, s2⟩, hW₁, X', ⟨g', mk, t, L, e1, e2, hq, h1, hL, h2, h3⟩, st⟩ := vx_callVW X hx (C := C) (hh := hh) (bytes := bytes) (maxL := maxL) (ret := ret) ho hl hin hse hcode hy hK (by rw [hT]; exact hcB) hoB hclB hg (hsize.trans hml.symm) (argsL := As) (rest := rest) (fun sig h => hn.trans (hlen sig h)) hstack hW (by rw [hb]; exact hdg)
    (fun vm₁ hW₁ => ⟨hf.1, hf.2, hPc (T.setVm vm₁) hT hW₁⟩)
  dsimp only [Pt.U, Pt.locs, Pt.cells, Pt.slots] at X' e1 e2 h1 h2 h3 st
  subst h1; subst h2; subst h3
  exact ⟨v, (T.setVm vm₁).calling g' mk (Value.ref b :: As).toArray, t, U', L, hT, X', hL, e1, e2, hq, st⟩
section
variable {y : MethodName} {bytes cc : ByteArray} {maxL nL mc ms n index : Nat} {ret : Option FieldType} {ws : List Cond} {rm : Room} {Pc : Array Value → State → Prop} {Qc : Array Value → State → Outcome → State → Prop} {XC : String → State → State → Prop} {free : Addr → Prop} {Ts : List Cond} {own C : String} {b : Addr} {As rest : List Value} {g : JFrame}
theorem vx_runVX {hh : List (Nat × Nat × Nat × Nat)} (S : CallFix p m c cc nL s args Ts own) (hM : vx_Met l y ws rm Pc Qc XC mc ms free) (cw : vx_CVW R s args own C index y bytes maxL ret hh ws rm mc ms n) (hp : PreV s H C b Pc As)
    (hg : g.method = m) (hn : As.length = n) (hsize : g.locals.size = nL) (hstack : g.stack = As.reverse ++ .ref b :: rest) (hW : 2 * g.monitorRoom + (rest.map fun v => v.category).sum ≤ 8) (hdg : decode cc g.pc = .ok (.invokevirtual index, 3)) (hf : cells + mc ≤ R.cells ∧ slots + ms ≤ R.slots) :
    vx_Run p l e R s m args below meth c H locs cells slots mc ms g rest (Qc (Value.ref b :: As).toArray) XC free := by
  obtain ⟨⟨hrc, hrs, hfr, hlo, hws, hcw⟩, hcode, hini, hy, hlen, hl, hin, hse⟩ := cw
  have hK : vx_Back l R p e below s args y 3 8 (PreOf R mc ms Pc) (PostOf Qc mc ms free) (vx_Post XC mc ms free) := vx_backW (hh := hh) (bytes := bytes) (maxL := maxL) (ret := ret) hM hp.1 hrc hrs hfr hlo hws hcw (fun a' U hW => word_at hW (Or.inl (by first | rfl | simp [Cond.onTables, Cond.keeps, Cond.steady])) hini)
  obtain ⟨hx, hb, hml, ho, -⟩ := S
  obtain ⟨-, ⟨cellB, hcB, hoB, hclB⟩, hPc⟩ := hp
  intro T hT X
  rcases vx_callVX X hx (C := C) (hh := hh) (bytes := bytes) (maxL := maxL) (ret := ret) ho hl hin hse hcode hy hK (by rw [hT]; exact hcB) hoB hclB hg (hsize.trans hml.symm) (argsL := As) (rest := rest) (fun sig h => hn.trans (hlen sig h)) hstack hW (by rw [hb]; exact hdg)
    (fun vm₁ hW₁ => ⟨hf.1, hf.2, hPc (T.setVm vm₁) hT hW₁⟩) with ⟨v, vm₁, ⟨U', l2, c2, s2⟩, hW₁, X', ⟨g', mk, t, L, e1, e2, hq, h1, hL, h2, h3⟩, st⟩ | ⟨q, vm₁, ⟨U', l2, c2, s2⟩, hW₁, X', ⟨g', mk, t, L, E, ce, e1, e2, hq, hce, hcv, hcl, h1, hL, h2, h3⟩, st⟩
  · dsimp only [Pt.U, Pt.locs, Pt.cells, Pt.slots] at X' e1 e2 h1 h2 h3 st
    subst h1; subst h2; subst h3
    exact Or.inl ⟨v, (T.setVm vm₁).calling g' mk (Value.ref b :: As).toArray, t, U', L, hT, X', hL, e1, e2, hq, st⟩
  · dsimp only [Pt.U, Pt.locs, Pt.cells, Pt.slots] at X' e1 e2 h1 h2 h3 st hcl
    subst h1; subst h2; subst h3
    exact Or.inr ⟨q, (T.setVm vm₁).calling g' mk (Value.ref b :: As).toArray, t, U', L, E, ce, hT, X', hL, e1, e2, hq, hce, hcv, vx_cls hW₁ hcl, st⟩
theorem vx_runSX {hh : List (Nat × Nat × Nat × Nat)} (S : CallFix p m c cc nL s args Ts own) (hM : vx_Met l y ws rm Pc Qc XC mc ms free) (cw : vx_CSW R s args own index y bytes maxL ret hh ws rm mc ms n) (hp : PreS s H Pc As)
    (hg : g.method = m) (hn : As.length = n) (hsize : g.locals.size = nL) (hstack : g.stack = As.reverse ++ rest) (hW : 2 * g.monitorRoom + (rest.map fun v => v.category).sum ≤ 8) (hdg : decode cc g.pc = .ok (.invokestatic index, 3)) (hf : cells + mc ≤ R.cells ∧ slots + ms ≤ R.slots) :
    vx_Run p l e R s m args below meth c H locs cells slots mc ms g rest (Qc As.toArray) XC free := by
  obtain ⟨⟨hrc, hrs, hfr, hlo, hws, hcw⟩, hcode, hini, hy, hlen, hl, hstt⟩ := cw
  have hK : vx_Back l R p e below s args y 3 8 (PreOf R mc ms Pc) (PostOf Qc mc ms free) (vx_Post XC mc ms free) := vx_backW (hh := hh) (bytes := bytes) (maxL := maxL) (ret := ret) hM hp.1 hrc hrs hfr hlo hws hcw (fun a' U hW => word_at hW (Or.inl (by first | rfl | simp [Cond.onTables, Cond.keeps, Cond.steady])) hini)
  obtain ⟨hx, hb, hml, ho, -⟩ := S
  intro T hT X
  rcases vx_callSX X hx (hh := hh) (bytes := bytes) (maxL := maxL) (ret := ret) ho hl hstt hini hcode hy hK hg (hsize.trans hml.symm) (argsL := As) (rest := rest) (fun sig h => hn.trans (hlen sig h)) hstack hW (by rw [hb]; exact hdg)
    (fun vm₁ hW₁ => ⟨hf.1, hf.2, hp.2 (T.setVm vm₁) hT hW₁⟩) with ⟨v, vm₁, ⟨U', l2, c2, s2⟩, hW₁, X', ⟨g', mk, t, L, e1, e2, hq, h1, hL, h2, h3⟩, st⟩ | ⟨q, vm₁, ⟨U', l2, c2, s2⟩, hW₁, X', ⟨g', mk, t, L, E, ce, e1, e2, hq, hce, hcv, hcl, h1, hL, h2, h3⟩, st⟩
  · dsimp only [Pt.U, Pt.locs, Pt.cells, Pt.slots] at X' e1 e2 h1 h2 h3 st
    subst h1; subst h2; subst h3
    exact Or.inl ⟨v, (T.setVm vm₁).calling g' mk As.toArray, t, U', L, hT, X', hL, e1, e2, hq, st⟩
  · dsimp only [Pt.U, Pt.locs, Pt.cells, Pt.slots] at X' e1 e2 h1 h2 h3 st hcl
    subst h1; subst h2; subst h3
    exact Or.inr ⟨q, (T.setVm vm₁).calling g' mk As.toArray, t, U', L, E, ce, hT, X', hL, e1, e2, hq, hce, hcv, vx_cls hW₁ hcl, st⟩
end
end VXH
theorem vx_ofWH {l : Launch} {y : MethodName} {ws ws' : List Cond} {rm : Room} {Pc : Array Value → State → Prop} {Qc : Array Value → State → Outcome → State → Prop} {XC : String → State → State → Prop} {mc ms : Nat} {free : Addr → Prop} {cc : ByteArray} {maxL : Nat} {ret : Option FieldType} {hh : List (Nat × Nat × Nat × Nat)}
    (hy : plainName y.cls = true) (hw : ws = Cond.codeWith y cc maxL ret hh :: ws')
    (body : ∀ p e s m args below meth c s₁, BodyLoose p l y (headSpec ws rm) cc maxL ret e s m args below meth c s₁ → c.maxLocals = maxL → Pc args s →
      W p l e (headSpec ws rm).room s m args below meth c s.heap [] 0 0 (vx_MQ below Qc XC args s mc ms free) (entryFrame m args maxL)) : vx_Met l y ws rm Pc Qc XC mc ms free := by
  refine MetFree.of_bodyS (code := cc) (maxLocals := maxL) (ret := ret) hy ?_ ?_
  · intro args s m h hn
    obtain ⟨m9, meth, c, hn9, h1, h2, h3, h4, -, h5, h6, -⟩ := Cond.codeWith_spec (atoms_spec (ws := ws) h _ (by rw [hw]; exact List.mem_cons_self))
    cases hn.symm.trans hn9
    exact ⟨meth, c, h1, h2, h3, h4, h5, h6⟩
  · intro p e s m args below meth c s₁ B hml hP _
    have hh0 : s₁.heap = s.heap := by rw [B.state]; rfl
    obtain ⟨t, a1, o, b1, b2, b3⟩ := body p e s m args below meth c s₁ B hml hP s₁ hh0 (Stand.of_body B)
    exact ⟨t, o, a1, b1, b2, b3⟩
/-! ===== END ===== -/
end
section
/-! ===== BEGIN printed: names, fields, word lists, decode rows ===== -/
def RX0 : String := "TakeoffSheet$Drawing"
def TX0 : u_T := fun k => match k with
  | 0 => ("TakeoffSheet$Drawing", "over", "[J", true)
  | 1 => ("TakeoffSheet$Drawing", "wallsNorth", "[J", true)
  | 2 => ("TakeoffSheet$Drawing", "openings", "[I", true)
  | 3 => ("TakeoffSheet$Drawing", "openingCount", "I", false)
  | 4 => ("TakeoffSheet$Drawing", "beginX", "I", false)
  | 5 => ("TakeoffSheet$Drawing", "beginY", "I", false)
  | 6 => ("TakeoffSheet$Drawing", "x", "I", false)
  | 7 => ("TakeoffSheet$Drawing", "y", "I", false)
  | 8 => ("TakeoffSheet$Drawing", "otherPlaces", "I", false)
  | 9 => ("TakeoffSheet$Drawing", "twiceArea", "I", false)
  | 10 => ("TakeoffSheet$Drawing", "begun", "Z", false)
  | _ => ("TakeoffSheet$Drawing", "closed", "Z", false)
def tyX0 : Nat → FieldType := fun k => match k with
  | 0 => .array .long
  | 1 => .array .long
  | 2 => .array .int
  | 3 => .int
  | 4 => .int
  | 5 => .int
  | 6 => .int
  | 7 => .int
  | 8 => .int
  | 9 => .int
  | 10 => .boolean
  | _ => .boolean
abbrev wsX00 : List Cond := u_ws RX0 TX0 12
theorem nmX0 : ∀ a, a < 12 → ∀ b, b < 12 → a ≠ b → (TX0 a).2.1 ≠ (TX0 b).2.1 := by decide +kernel
theorem tyX0_ok : ∀ k, k < 12 → parseFieldDescriptor (TX0 k).2.2.1 = some (tyX0 k) := by decide +kernel
abbrev cX0_init : ByteArray := prog_2_method_1_code
def yX0_init : MethodName := ⟨RX0, "<init>", "()V"⟩
abbrev cX0_startAt : ByteArray := prog_2_method_2_code
def yX0_startAt : MethodName := ⟨RX0, "startAt", "(II)V"⟩
abbrev cX0_takeAway : ByteArray := prog_2_method_3_code
def yX0_takeAway : MethodName := ⟨RX0, "takeAway", "()V"⟩
abbrev cX0_admits : ByteArray := prog_2_method_4_code
def yX0_admits : MethodName := ⟨RX0, "admits", "(II)Z"⟩
abbrev cX0_goOn : ByteArray := prog_2_method_5_code
def yX0_goOn : MethodName := ⟨RX0, "goOn", "(II)V"⟩
abbrev cX0_addOpening : ByteArray := prog_2_method_6_code
def yX0_addOpening : MethodName := ⟨RX0, "addOpening", "(I)Z"⟩
abbrev cX0_areaByCorners : ByteArray := prog_2_method_7_code
def yX0_areaByCorners : MethodName := ⟨RX0, "areaByCorners", "()I"⟩
abbrev cX0_squaresInside : ByteArray := prog_2_method_8_code
def yX0_squaresInside : MethodName := ⟨RX0, "squaresInside", "()I"⟩
abbrev cX0_areaLeft : ByteArray := prog_2_method_9_code
def yX0_areaLeft : MethodName := ⟨RX0, "areaLeft", "(I)I"⟩
abbrev cX0_squaresInStrip : ByteArray := prog_2_method_10_code
def yX0_squaresInStrip : MethodName := ⟨RX0, "squaresInStrip", "(I)I"⟩
abbrev cX0_isFree : ByteArray := prog_2_method_11_code
def yX0_isFree : MethodName := ⟨RX0, "isFree", "(II)Z"⟩
abbrev cX0_closesAt : ByteArray := prog_2_method_12_code
def yX0_closesAt : MethodName := ⟨RX0, "closesAt", "(II)Z"⟩
abbrev cX0_eastward : ByteArray := prog_2_method_13_code
def yX0_eastward : MethodName := ⟨RX0, "eastward", "(I)I"⟩
abbrev cX0_northward : ByteArray := prog_2_method_14_code
def yX0_northward : MethodName := ⟨RX0, "northward", "(I)I"⟩
abbrev cX0_isPlace : ByteArray := prog_2_method_15_code
def yX0_isPlace : MethodName := ⟨RX0, "isPlace", "(II)Z"⟩
abbrev cX0_mark : ByteArray := prog_2_method_16_code
def yX0_mark : MethodName := ⟨RX0, "mark", "([JII)V"⟩
abbrev cX0_isMarked : ByteArray := prog_2_method_17_code
def yX0_isMarked : MethodName := ⟨RX0, "isMarked", "([JII)Z"⟩
def RX1 : String := "TakeoffSheet$Item"
def TX1 : u_T := fun k => match k with
  | 0 => ("TakeoffSheet$Item", "parent", "LTakeoffSheet$Item;", true)
  | 1 => ("TakeoffSheet$Item", "rate", "LTakeoffSheet$Rate;", true)
  | 2 => ("TakeoffSheet$Item", "waste", "I", true)
  | 3 => ("TakeoffSheet$Item", "measure", "I", false)
  | 4 => ("TakeoffSheet$Item", "variation", "I", false)
  | _ => ("TakeoffSheet$Item", "done", "I", false)
def tyX1 : Nat → FieldType := fun k => match k with
  | 0 => .object "TakeoffSheet$Item"
  | 1 => .object "TakeoffSheet$Rate"
  | 2 => .int
  | 3 => .int
  | 4 => .int
  | _ => .int
abbrev wsX10 : List Cond := u_ws RX1 TX1 6
theorem nmX1 : ∀ a, a < 6 → ∀ b, b < 6 → a ≠ b → (TX1 a).2.1 ≠ (TX1 b).2.1 := by decide +kernel
theorem tyX1_ok : ∀ k, k < 6 → parseFieldDescriptor (TX1 k).2.2.1 = some (tyX1 k) := by decide +kernel
abbrev cX1_init : ByteArray := prog_3_method_1_code
def yX1_init : MethodName := ⟨RX1, "<init>", "(LTakeoffSheet$Item;LTakeoffSheet$Rate;I)V"⟩
abbrev cX1_isLeaf : ByteArray := prog_3_method_2_code
def yX1_isLeaf : MethodName := ⟨RX1, "isLeaf", "()Z"⟩
abbrev cX1_standsUnder : ByteArray := prog_3_method_3_code
def yX1_standsUnder : MethodName := ⟨RX1, "standsUnder", "(LTakeoffSheet$Item;)Z"⟩
abbrev cX1_measureWithWaste : ByteArray := prog_3_method_4_code
def yX1_measureWithWaste : MethodName := ⟨RX1, "measureWithWaste", "()J"⟩
def RX2 : String := "TakeoffSheet$Rate"
def TX2 : u_T := fun k => match k with
  | 0 => ("TakeoffSheet$Rate", "labour", "I", true)
  | 1 => ("TakeoffSheet$Rate", "plant", "I", true)
  | _ => ("TakeoffSheet$Rate", "material", "I", true)
def tyX2 : Nat → FieldType := fun k => match k with
  | 0 => .int
  | 1 => .int
  | _ => .int
abbrev wsX20 : List Cond := u_ws RX2 TX2 3
theorem nmX2 : ∀ a, a < 3 → ∀ b, b < 3 → a ≠ b → (TX2 a).2.1 ≠ (TX2 b).2.1 := by decide +kernel
theorem tyX2_ok : ∀ k, k < 3 → parseFieldDescriptor (TX2 k).2.2.1 = some (tyX2 k) := by decide +kernel
abbrev cX2_init : ByteArray := prog_4_method_1_code
def yX2_init : MethodName := ⟨RX2, "<init>", "(III)V"⟩
abbrev cX2_isOf : ByteArray := prog_4_method_2_code
def yX2_isOf : MethodName := ⟨RX2, "isOf", "(III)Z"⟩
def RX3 : String := "TakeoffSheet"
def TX3 : u_T := fun k => match k with
  | 0 => ("TakeoffSheet", "drawing", "LTakeoffSheet$Drawing;", true)
  | 1 => ("TakeoffSheet", "rates", "Ljava/util/ArrayList;", true)
  | 2 => ("TakeoffSheet", "items", "Ljava/util/ArrayList;", true)
  | 3 => ("TakeoffSheet", "prices", "[I", true)
  | 4 => ("TakeoffSheet", "limit", "I", false)
  | 5 => ("TakeoffSheet", "retention", "I", false)
  | _ => ("TakeoffSheet", "claimed", "J", false)
def tyX3 : Nat → FieldType := fun k => match k with
  | 0 => .object "TakeoffSheet$Drawing"
  | 1 => .object "java/util/ArrayList"
  | 2 => .object "java/util/ArrayList"
  | 3 => .array .int
  | 4 => .int
  | 5 => .int
  | _ => .long
abbrev wsX30 : List Cond := u_ws RX3 TX3 7
theorem nmX3 : ∀ a, a < 7 → ∀ b, b < 7 → a ≠ b → (TX3 a).2.1 ≠ (TX3 b).2.1 := by decide +kernel
theorem tyX3_ok : ∀ k, k < 7 → parseFieldDescriptor (TX3 k).2.2.1 = some (tyX3 k) := by decide +kernel
abbrev cX3_init : ByteArray := prog_1_method_1_code
def yX3_init : MethodName := ⟨RX3, "<init>", "()V"⟩
abbrev cX3_begin : ByteArray := prog_1_method_2_code
def yX3_begin : MethodName := ⟨RX3, "begin", "(II)V"⟩
abbrev cX3_wall : ByteArray := prog_1_method_3_code
def yX3_wall : MethodName := ⟨RX3, "wall", "(II)Z"⟩
abbrev cX3_opening : ByteArray := prog_1_method_4_code
def yX3_opening : MethodName := ⟨RX3, "opening", "(II)I"⟩
abbrev cX3_limit : ByteArray := prog_1_method_5_code
def yX3_limit : MethodName := ⟨RX3, "limit", "(I)I"⟩
abbrev cX3_area : ByteArray := prog_1_method_6_code
def yX3_area : MethodName := ⟨RX3, "area", "()I"⟩
abbrev cX3_areaByStrips : ByteArray := prog_1_method_7_code
def yX3_areaByStrips : MethodName := ⟨RX3, "areaByStrips", "()I"⟩
abbrev cX3_netArea : ByteArray := prog_1_method_8_code
def yX3_netArea : MethodName := ⟨RX3, "netArea", "()I"⟩
abbrev cX3_rate : ByteArray := prog_1_method_9_code
def yX3_rate : MethodName := ⟨RX3, "rate", "(III)I"⟩
abbrev cX3_price : ByteArray := prog_1_method_10_code
def yX3_price : MethodName := ⟨RX3, "price", "(II)I"⟩
abbrev cX3_rateOf : ByteArray := prog_1_method_11_code
def yX3_rateOf : MethodName := ⟨RX3, "rateOf", "(I)I"⟩
abbrev cX3_heading : ByteArray := prog_1_method_12_code
def yX3_heading : MethodName := ⟨RX3, "heading", "(I)I"⟩
abbrev cX3_leaf : ByteArray := prog_1_method_13_code
def yX3_leaf : MethodName := ⟨RX3, "leaf", "(III)I"⟩
abbrev cX3_items : ByteArray := prog_1_method_14_code
def yX3_items : MethodName := ⟨RX3, "items", "()I"⟩
abbrev cX3_take : ByteArray := prog_1_method_15_code
def yX3_take : MethodName := ⟨RX3, "take", "(II)I"⟩
abbrev cX3_vary : ByteArray := prog_1_method_16_code
def yX3_vary : MethodName := ⟨RX3, "vary", "(II)I"⟩
abbrev cX3_quantity : ByteArray := prog_1_method_17_code
def yX3_quantity : MethodName := ⟨RX3, "quantity", "(I)I"⟩
abbrev cX3_sum : ByteArray := prog_1_method_18_code
def yX3_sum : MethodName := ⟨RX3, "sum", "(I)J"⟩
abbrev cX3_total : ByteArray := prog_1_method_19_code
def yX3_total : MethodName := ⟨RX3, "total", "()J"⟩
abbrev cX3_dearest : ByteArray := prog_1_method_20_code
def yX3_dearest : MethodName := ⟨RX3, "dearest", "(I)I"⟩
abbrev cX3_done : ByteArray := prog_1_method_21_code
def yX3_done : MethodName := ⟨RX3, "done", "(II)I"⟩
abbrev cX3_retention : ByteArray := prog_1_method_22_code
def yX3_retention : MethodName := ⟨RX3, "retention", "(I)I"⟩
abbrev cX3_worth : ByteArray := prog_1_method_23_code
def yX3_worth : MethodName := ⟨RX3, "worth", "()J"⟩
abbrev cX3_due : ByteArray := prog_1_method_24_code
def yX3_due : MethodName := ⟨RX3, "due", "()J"⟩
abbrev cX3_claim : ByteArray := prog_1_method_25_code
def yX3_claim : MethodName := ⟨RX3, "claim", "()J"⟩
abbrev cX3_claimed : ByteArray := prog_1_method_26_code
def yX3_claimed : MethodName := ⟨RX3, "claimed", "()J"⟩
abbrev cX3_checkRange : ByteArray := prog_1_method_27_code
def yX3_checkRange : MethodName := ⟨RX3, "checkRange", "(III)V"⟩
abbrev cX3_checkClosed : ByteArray := prog_1_method_28_code
def yX3_checkClosed : MethodName := ⟨RX3, "checkClosed", "()V"⟩
abbrev cX3_checkLeaf : ByteArray := prog_1_method_29_code
def yX3_checkLeaf : MethodName := ⟨RX3, "checkLeaf", "(LTakeoffSheet$Item;)V"⟩
abbrev cX3_itemAt : ByteArray := prog_1_method_30_code
def yX3_itemAt : MethodName := ⟨RX3, "itemAt", "(I)LTakeoffSheet$Item;"⟩
abbrev cX3_parentAt : ByteArray := prog_1_method_31_code
def yX3_parentAt : MethodName := ⟨RX3, "parentAt", "(I)LTakeoffSheet$Item;"⟩
abbrev cX3_rateAt : ByteArray := prog_1_method_32_code
def yX3_rateAt : MethodName := ⟨RX3, "rateAt", "(I)LTakeoffSheet$Rate;"⟩
abbrev cX3_addItem : ByteArray := prog_1_method_33_code
def yX3_addItem : MethodName := ⟨RX3, "addItem", "(LTakeoffSheet$Item;LTakeoffSheet$Rate;I)I"⟩
abbrev cX3_priceOf : ByteArray := prog_1_method_34_code
def yX3_priceOf : MethodName := ⟨RX3, "priceOf", "(LTakeoffSheet$Rate;)I"⟩
abbrev cX3_ownSum : ByteArray := prog_1_method_35_code
def yX3_ownSum : MethodName := ⟨RX3, "ownSum", "(LTakeoffSheet$Item;)J"⟩
abbrev cX3_hundredthsRoundedUp : ByteArray := prog_1_method_36_code
def yX3_hundredthsRoundedUp : MethodName := ⟨RX3, "hundredthsRoundedUp", "(J)J"⟩
def RX4 : String := "TakeoffSheetModel"
def TX4 : u_T := fun k => match k with
  | 0 => ("TakeoffSheetModel", "marks", "[Z", true)
  | 1 => ("TakeoffSheetModel", "drawn", "Z", false)
  | 2 => ("TakeoffSheetModel", "closed", "Z", false)
  | 3 => ("TakeoffSheetModel", "beginX", "I", false)
  | 4 => ("TakeoffSheetModel", "beginY", "I", false)
  | 5 => ("TakeoffSheetModel", "x", "I", false)
  | 6 => ("TakeoffSheetModel", "y", "I", false)
  | 7 => ("TakeoffSheetModel", "others", "I", false)
  | 8 => ("TakeoffSheetModel", "twice", "I", false)
  | 9 => ("TakeoffSheetModel", "holes", "[I", true)
  | 10 => ("TakeoffSheetModel", "openings", "I", false)
  | 11 => ("TakeoffSheetModel", "limit", "I", false)
  | 12 => ("TakeoffSheetModel", "amounts", "[I", true)
  | 13 => ("TakeoffSheetModel", "rates", "I", false)
  | 14 => ("TakeoffSheetModel", "prices", "[I", true)
  | 15 => ("TakeoffSheetModel", "parents", "[I", true)
  | 16 => ("TakeoffSheetModel", "rateOf", "[I", true)
  | 17 => ("TakeoffSheetModel", "wastes", "[I", true)
  | 18 => ("TakeoffSheetModel", "measures", "[I", true)
  | 19 => ("TakeoffSheetModel", "variations", "[I", true)
  | 20 => ("TakeoffSheetModel", "dones", "[I", true)
  | 21 => ("TakeoffSheetModel", "sums", "[J", true)
  | 22 => ("TakeoffSheetModel", "items", "I", false)
  | 23 => ("TakeoffSheetModel", "retention", "I", false)
  | 24 => ("TakeoffSheetModel", "claimed", "J", false)
  | _ => ("TakeoffSheetModel", "last", "I", false)
def tyX4 : Nat → FieldType := fun k => match k with
  | 0 => .array .boolean
  | 1 => .boolean
  | 2 => .boolean
  | 3 => .int
  | 4 => .int
  | 5 => .int
  | 6 => .int
  | 7 => .int
  | 8 => .int
  | 9 => .array .int
  | 10 => .int
  | 11 => .int
  | 12 => .array .int
  | 13 => .int
  | 14 => .array .int
  | 15 => .array .int
  | 16 => .array .int
  | 17 => .array .int
  | 18 => .array .int
  | 19 => .array .int
  | 20 => .array .int
  | 21 => .array .long
  | 22 => .int
  | 23 => .int
  | 24 => .long
  | _ => .int
abbrev wsX40 : List Cond := u_ws RX4 TX4 26
theorem nmX4 : ∀ a, a < 26 → ∀ b, b < 26 → a ≠ b → (TX4 a).2.1 ≠ (TX4 b).2.1 := by decide +kernel
theorem tyX4_ok : ∀ k, k < 26 → parseFieldDescriptor (TX4 k).2.2.1 = some (tyX4 k) := by decide +kernel
abbrev cX4_init : ByteArray := prog_6_method_1_code
def yX4_init : MethodName := ⟨RX4, "<init>", "()V"⟩
abbrev cX4_thrown : ByteArray := prog_6_method_2_code
def yX4_thrown : MethodName := ⟨RX4, "thrown", "()I"⟩
abbrev cX4_in : ByteArray := prog_6_method_3_code
def yX4_in : MethodName := ⟨RX4, "in", "(III)Z"⟩
abbrev cX4_goes : ByteArray := prog_6_method_4_code
def yX4_goes : MethodName := ⟨RX4, "goes", "(ZZZ)Z"⟩
abbrev cX4_isItem : ByteArray := prog_6_method_5_code
def yX4_isItem : MethodName := ⟨RX4, "isItem", "(I)Z"⟩
abbrev cX4_isHeading : ByteArray := prog_6_method_6_code
def yX4_isHeading : MethodName := ⟨RX4, "isHeading", "(I)Z"⟩
abbrev cX4_isRate : ByteArray := prog_6_method_7_code
def yX4_isRate : MethodName := ⟨RX4, "isRate", "(I)Z"⟩
abbrev cX4_begin : ByteArray := prog_6_method_8_code
def yX4_begin : MethodName := ⟨RX4, "begin", "(II)V"⟩
abbrev cX4_canGo : ByteArray := prog_6_method_9_code
def yX4_canGo : MethodName := ⟨RX4, "canGo", "(III)Z"⟩
abbrev cX4_wall : ByteArray := prog_6_method_10_code
def yX4_wall : MethodName := ⟨RX4, "wall", "(II)Z"⟩
abbrev cX4_opening : ByteArray := prog_6_method_11_code
def yX4_opening : MethodName := ⟨RX4, "opening", "(II)I"⟩
abbrev cX4_limit : ByteArray := prog_6_method_12_code
def yX4_limit : MethodName := ⟨RX4, "limit", "(I)I"⟩
abbrev cX4_whole : ByteArray := prog_6_method_13_code
def yX4_whole : MethodName := ⟨RX4, "whole", "()I"⟩
abbrev cX4_net : ByteArray := prog_6_method_14_code
def yX4_net : MethodName := ⟨RX4, "net", "()I"⟩
abbrev cX4_area : ByteArray := prog_6_method_15_code
def yX4_area : MethodName := ⟨RX4, "area", "()I"⟩
abbrev cX4_areaByStrips : ByteArray := prog_6_method_16_code
def yX4_areaByStrips : MethodName := ⟨RX4, "areaByStrips", "()I"⟩
abbrev cX4_netArea : ByteArray := prog_6_method_17_code
def yX4_netArea : MethodName := ⟨RX4, "netArea", "()I"⟩
abbrev cX4_rate : ByteArray := prog_6_method_18_code
def yX4_rate : MethodName := ⟨RX4, "rate", "(III)I"⟩
abbrev cX4_price : ByteArray := prog_6_method_19_code
def yX4_price : MethodName := ⟨RX4, "price", "(II)I"⟩
abbrev cX4_cents : ByteArray := prog_6_method_20_code
def yX4_cents : MethodName := ⟨RX4, "cents", "(I)I"⟩
abbrev cX4_rateOf : ByteArray := prog_6_method_21_code
def yX4_rateOf : MethodName := ⟨RX4, "rateOf", "(I)I"⟩
abbrev cX4_isLeaf : ByteArray := prog_6_method_22_code
def yX4_isLeaf : MethodName := ⟨RX4, "isLeaf", "(I)Z"⟩
abbrev cX4_adds : ByteArray := prog_6_method_23_code
def yX4_adds : MethodName := ⟨RX4, "adds", "(III)I"⟩
abbrev cX4_heading : ByteArray := prog_6_method_24_code
def yX4_heading : MethodName := ⟨RX4, "heading", "(I)I"⟩
abbrev cX4_leaf : ByteArray := prog_6_method_25_code
def yX4_leaf : MethodName := ⟨RX4, "leaf", "(III)I"⟩
abbrev cX4_items : ByteArray := prog_6_method_26_code
def yX4_items : MethodName := ⟨RX4, "items", "()I"⟩
abbrev cX4_take : ByteArray := prog_6_method_27_code
def yX4_take : MethodName := ⟨RX4, "take", "(II)I"⟩
abbrev cX4_vary : ByteArray := prog_6_method_28_code
def yX4_vary : MethodName := ⟨RX4, "vary", "(II)I"⟩
abbrev cX4_quantities : ByteArray := prog_6_method_29_code
def yX4_quantities : MethodName := ⟨RX4, "quantities", "(I)I"⟩
abbrev cX4_quantity : ByteArray := prog_6_method_30_code
def yX4_quantity : MethodName := ⟨RX4, "quantity", "(I)I"⟩
abbrev cX4_fills : ByteArray := prog_6_method_31_code
def yX4_fills : MethodName := ⟨RX4, "fills", "()V"⟩
abbrev cX4_sum : ByteArray := prog_6_method_32_code
def yX4_sum : MethodName := ⟨RX4, "sum", "(I)J"⟩
abbrev cX4_total : ByteArray := prog_6_method_33_code
def yX4_total : MethodName := ⟨RX4, "total", "()J"⟩
abbrev cX4_isBelow : ByteArray := prog_6_method_34_code
def yX4_isBelow : MethodName := ⟨RX4, "isBelow", "(II)Z"⟩
abbrev cX4_dearest : ByteArray := prog_6_method_35_code
def yX4_dearest : MethodName := ⟨RX4, "dearest", "(I)I"⟩
abbrev cX4_done : ByteArray := prog_6_method_36_code
def yX4_done : MethodName := ⟨RX4, "done", "(II)I"⟩
abbrev cX4_retention : ByteArray := prog_6_method_37_code
def yX4_retention : MethodName := ⟨RX4, "retention", "(I)I"⟩
abbrev cX4_worthNow : ByteArray := prog_6_method_38_code
def yX4_worthNow : MethodName := ⟨RX4, "worthNow", "()J"⟩
abbrev cX4_dueNow : ByteArray := prog_6_method_39_code
def yX4_dueNow : MethodName := ⟨RX4, "dueNow", "()J"⟩
abbrev cX4_worth : ByteArray := prog_6_method_40_code
def yX4_worth : MethodName := ⟨RX4, "worth", "()J"⟩
abbrev cX4_due : ByteArray := prog_6_method_41_code
def yX4_due : MethodName := ⟨RX4, "due", "()J"⟩
abbrev cX4_claim : ByteArray := prog_6_method_42_code
def yX4_claim : MethodName := ⟨RX4, "claim", "()J"⟩
abbrev cX4_claimed : ByteArray := prog_6_method_43_code
def yX4_claimed : MethodName := ⟨RX4, "claimed", "()J"⟩
def RJx145de : String := "java/io/Serializable"
def TJx145de : u_T := fun k => match k with
  | _ => ("", "", "", false)
def tyJx145de : Nat → FieldType := fun k => match k with
  | _ => .int
abbrev wsJx145de0 : List Cond := u_ws RJx145de TJx145de 0
theorem nmJx145de : ∀ a, a < 0 → ∀ b, b < 0 → a ≠ b → (TJx145de a).2.1 ≠ (TJx145de b).2.1 := by decide +kernel
theorem tyJx145de_ok : ∀ k, k < 0 → parseFieldDescriptor (TJx145de k).2.2.1 = some (tyJx145de k) := by decide +kernel
def RJx8e188 : String := "java/lang/Cloneable"
def TJx8e188 : u_T := fun k => match k with
  | _ => ("", "", "", false)
def tyJx8e188 : Nat → FieldType := fun k => match k with
  | _ => .int
abbrev wsJx8e1880 : List Cond := u_ws RJx8e188 TJx8e188 0
theorem nmJx8e188 : ∀ a, a < 0 → ∀ b, b < 0 → a ≠ b → (TJx8e188 a).2.1 ≠ (TJx8e188 b).2.1 := by decide +kernel
theorem tyJx8e188_ok : ∀ k, k < 0 → parseFieldDescriptor (TJx8e188 k).2.2.1 = some (tyJx8e188 k) := by decide +kernel
def RJxab1ab : String := "java/lang/Iterable"
def TJxab1ab : u_T := fun k => match k with
  | _ => ("", "", "", false)
def tyJxab1ab : Nat → FieldType := fun k => match k with
  | _ => .int
abbrev wsJxab1ab0 : List Cond := u_ws RJxab1ab TJxab1ab 0
theorem nmJxab1ab : ∀ a, a < 0 → ∀ b, b < 0 → a ≠ b → (TJxab1ab a).2.1 ≠ (TJxab1ab b).2.1 := by decide +kernel
theorem tyJxab1ab_ok : ∀ k, k < 0 → parseFieldDescriptor (TJxab1ab k).2.2.1 = some (tyJxab1ab k) := by decide +kernel
def RJ9 : String := "java/lang/Math"
def TJ9 : u_T := fun k => match k with
  | _ => ("", "", "", false)
def tyJ9 : Nat → FieldType := fun k => match k with
  | _ => .int
abbrev wsJ90 : List Cond := u_ws RJ9 TJ9 0
theorem nmJ9 : ∀ a, a < 0 → ∀ b, b < 0 → a ≠ b → (TJ9 a).2.1 ≠ (TJ9 b).2.1 := by decide +kernel
theorem tyJ9_ok : ∀ k, k < 0 → parseFieldDescriptor (TJ9 k).2.2.1 = some (tyJ9 k) := by decide +kernel
abbrev cJ9_abs_0f7a4 : ByteArray := prog_14_method_59_code
def yJ9_abs_0f7a4 : MethodName := ⟨RJ9, "abs", "(I)I"⟩
abbrev cJ9_max_7cf53 : ByteArray := prog_14_method_65_code
def yJ9_max_7cf53 : MethodName := ⟨RJ9, "max", "(II)I"⟩
abbrev cJ9_max_f86c9 : ByteArray := prog_14_method_66_code
def yJ9_max_f86c9 : MethodName := ⟨RJ9, "max", "(JJ)J"⟩
abbrev cJ9_min_7cf53 : ByteArray := prog_14_method_69_code
def yJ9_min_7cf53 : MethodName := ⟨RJ9, "min", "(II)I"⟩
def RJ0 : String := "java/lang/String"
def TJ0 : u_T := fun k => match k with
  | _ => ("", "", "", false)
def tyJ0 : Nat → FieldType := fun k => match k with
  | _ => .int
abbrev wsJ00 : List Cond := u_ws RJ0 TJ0 0
theorem nmJ0 : ∀ a, a < 0 → ∀ b, b < 0 → a ≠ b → (TJ0 a).2.1 ≠ (TJ0 b).2.1 := by decide +kernel
theorem tyJ0_ok : ∀ k, k < 0 → parseFieldDescriptor (TJ0 k).2.2.1 = some (tyJ0 k) := by decide +kernel
def RJ10 : String := "java/lang/System"
def TJ10 : u_T := fun k => match k with
  | _ => ("", "", "", false)
def tyJ10 : Nat → FieldType := fun k => match k with
  | _ => .int
abbrev wsJ100 : List Cond := u_ws RJ10 TJ10 0
theorem nmJ10 : ∀ a, a < 0 → ∀ b, b < 0 → a ≠ b → (TJ10 a).2.1 ≠ (TJ10 b).2.1 := by decide +kernel
theorem tyJ10_ok : ∀ k, k < 0 → parseFieldDescriptor (TJ10 k).2.2.1 = some (tyJ10 k) := by decide +kernel
def RJxa1e45 : String := "java/util/AbstractCollection"
def TJxa1e45 : u_T := fun k => match k with
  | _ => ("", "", "", false)
def tyJxa1e45 : Nat → FieldType := fun k => match k with
  | _ => .int
abbrev wsJxa1e450 : List Cond := u_ws RJxa1e45 TJxa1e45 0
theorem nmJxa1e45 : ∀ a, a < 0 → ∀ b, b < 0 → a ≠ b → (TJxa1e45 a).2.1 ≠ (TJxa1e45 b).2.1 := by decide +kernel
theorem tyJxa1e45_ok : ∀ k, k < 0 → parseFieldDescriptor (TJxa1e45 k).2.2.1 = some (tyJxa1e45 k) := by decide +kernel
abbrev cJxa1e45_init_da8c8 : ByteArray := prog_19_method_1_code
def yJxa1e45_init_da8c8 : MethodName := ⟨RJxa1e45, "<init>", "()V"⟩
def RJxc12de : String := "java/util/AbstractList"
def TJxc12de : u_T := fun k => match k with
  | _ => ("", "", "", false)
def tyJxc12de : Nat → FieldType := fun k => match k with
  | _ => .int
abbrev wsJxc12de0 : List Cond := u_ws RJxc12de TJxc12de 0
theorem nmJxc12de : ∀ a, a < 0 → ∀ b, b < 0 → a ≠ b → (TJxc12de a).2.1 ≠ (TJxc12de b).2.1 := by decide +kernel
theorem tyJxc12de_ok : ∀ k, k < 0 → parseFieldDescriptor (TJxc12de k).2.2.1 = some (tyJxc12de k) := by decide +kernel
abbrev cJxc12de_init_da8c8 : ByteArray := prog_20_method_1_code
def yJxc12de_init_da8c8 : MethodName := ⟨RJxc12de, "<init>", "()V"⟩
def RJx4a65c : String := "java/util/ArrayList"
def TJx4a65c : u_T := fun k => match k with
  | 0 => ("java/util/AbstractList", "modCount", "I", false)
  | 1 => ("java/util/ArrayList", "elementData", "[Ljava/lang/Object;", false)
  | _ => ("java/util/ArrayList", "size", "I", false)
def tyJx4a65c : Nat → FieldType := fun k => match k with
  | 0 => .int
  | 1 => .array (.object "java/lang/Object")
  | _ => .int
abbrev wsJx4a65c0 : List Cond := u_ws RJx4a65c TJx4a65c 3
theorem nmJx4a65c : ∀ a, a < 3 → ∀ b, b < 3 → a ≠ b → (TJx4a65c a).2.1 ≠ (TJx4a65c b).2.1 := by decide +kernel
theorem tyJx4a65c_ok : ∀ k, k < 3 → parseFieldDescriptor (TJx4a65c k).2.2.1 = some (tyJx4a65c k) := by decide +kernel
abbrev cJx4a65c_init_da8c8 : ByteArray := prog_21_method_2_code
def yJx4a65c_init_da8c8 : MethodName := ⟨RJx4a65c, "<init>", "()V"⟩
abbrev cJx4a65c_grow_92f84 : ByteArray := prog_21_method_6_code
def yJx4a65c_grow_92f84 : MethodName := ⟨RJx4a65c, "grow", "(I)[Ljava/lang/Object;"⟩
abbrev cJx4a65c_grow_d5877 : ByteArray := prog_21_method_7_code
def yJx4a65c_grow_d5877 : MethodName := ⟨RJx4a65c, "grow", "()[Ljava/lang/Object;"⟩
abbrev cJx4a65c_size_8abf5 : ByteArray := prog_21_method_8_code
def yJx4a65c_size_8abf5 : MethodName := ⟨RJx4a65c, "size", "()I"⟩
abbrev cJx4a65c_elementData_915e3 : ByteArray := prog_21_method_18_code
def yJx4a65c_elementData_915e3 : MethodName := ⟨RJx4a65c, "elementData", "(I)Ljava/lang/Object;"⟩
abbrev cJx4a65c_get_915e3 : ByteArray := prog_21_method_20_code
def yJx4a65c_get_915e3 : MethodName := ⟨RJx4a65c, "get", "(I)Ljava/lang/Object;"⟩
abbrev cJx4a65c_add_72be8 : ByteArray := prog_21_method_24_code
def yJx4a65c_add_72be8 : MethodName := ⟨RJx4a65c, "add", "(Ljava/lang/Object;[Ljava/lang/Object;I)V"⟩
abbrev cJx4a65c_add_9ea2d : ByteArray := prog_21_method_25_code
def yJx4a65c_add_9ea2d : MethodName := ⟨RJx4a65c, "add", "(Ljava/lang/Object;)Z"⟩
def RJ7 : String := "java/util/Arrays"
def TJ7 : u_T := fun k => match k with
  | _ => ("", "", "", false)
def tyJ7 : Nat → FieldType := fun k => match k with
  | _ => .int
abbrev wsJ70 : List Cond := u_ws RJ7 TJ7 0
theorem nmJ7 : ∀ a, a < 0 → ∀ b, b < 0 → a ≠ b → (TJ7 a).2.1 ≠ (TJ7 b).2.1 := by decide +kernel
theorem tyJ7_ok : ∀ k, k < 0 → parseFieldDescriptor (TJ7 k).2.2.1 = some (tyJ7 k) := by decide +kernel
abbrev cJ7_fill_d0a16 : ByteArray := prog_22_method_101_code
def yJ7_fill_d0a16 : MethodName := ⟨RJ7, "fill", "([JJ)V"⟩
abbrev cJ7_fill_53178 : ByteArray := prog_22_method_103_code
def yJ7_fill_53178 : MethodName := ⟨RJ7, "fill", "([II)V"⟩
abbrev cJ7_copyOf_1904c : ByteArray := prog_22_method_119_code
def yJ7_copyOf_1904c : MethodName := ⟨RJ7, "copyOf", "([Ljava/lang/Object;I)[Ljava/lang/Object;"⟩
abbrev cJ7_copyOf_6403c : ByteArray := prog_22_method_120_code
def yJ7_copyOf_6403c : MethodName := ⟨RJ7, "copyOf", "([Ljava/lang/Object;ILjava/lang/Class;)[Ljava/lang/Object;"⟩
def RJx5ef63 : String := "java/util/Collection"
def TJx5ef63 : u_T := fun k => match k with
  | _ => ("", "", "", false)
def tyJx5ef63 : Nat → FieldType := fun k => match k with
  | _ => .int
abbrev wsJx5ef630 : List Cond := u_ws RJx5ef63 TJx5ef63 0
theorem nmJx5ef63 : ∀ a, a < 0 → ∀ b, b < 0 → a ≠ b → (TJx5ef63 a).2.1 ≠ (TJx5ef63 b).2.1 := by decide +kernel
theorem tyJx5ef63_ok : ∀ k, k < 0 → parseFieldDescriptor (TJx5ef63 k).2.2.1 = some (tyJx5ef63 k) := by decide +kernel
def RJxbd725 : String := "java/util/List"
def TJxbd725 : u_T := fun k => match k with
  | _ => ("", "", "", false)
def tyJxbd725 : Nat → FieldType := fun k => match k with
  | _ => .int
abbrev wsJxbd7250 : List Cond := u_ws RJxbd725 TJxbd725 0
theorem nmJxbd725 : ∀ a, a < 0 → ∀ b, b < 0 → a ≠ b → (TJxbd725 a).2.1 ≠ (TJxbd725 b).2.1 := by decide +kernel
theorem tyJxbd725_ok : ∀ k, k < 0 → parseFieldDescriptor (TJxbd725 k).2.2.1 = some (tyJxbd725 k) := by decide +kernel
def RJ15 : String := "java/util/Objects"
def TJ15 : u_T := fun k => match k with
  | _ => ("", "", "", false)
def tyJ15 : Nat → FieldType := fun k => match k with
  | _ => .int
abbrev wsJ150 : List Cond := u_ws RJ15 TJ15 0
theorem nmJ15 : ∀ a, a < 0 → ∀ b, b < 0 → a ≠ b → (TJ15 a).2.1 ≠ (TJ15 b).2.1 := by decide +kernel
theorem tyJ15_ok : ∀ k, k < 0 → parseFieldDescriptor (TJ15 k).2.2.1 = some (tyJ15 k) := by decide +kernel
abbrev cJ15_checkIndex_7cf53 : ByteArray := prog_25_method_17_code
def yJ15_checkIndex_7cf53 : MethodName := ⟨RJ15, "checkIndex", "(II)I"⟩
def RJxf0a74 : String := "java/util/RandomAccess"
def TJxf0a74 : u_T := fun k => match k with
  | _ => ("", "", "", false)
def tyJxf0a74 : Nat → FieldType := fun k => match k with
  | _ => .int
abbrev wsJxf0a740 : List Cond := u_ws RJxf0a74 TJxf0a74 0
theorem nmJxf0a74 : ∀ a, a < 0 → ∀ b, b < 0 → a ≠ b → (TJxf0a74 a).2.1 ≠ (TJxf0a74 b).2.1 := by decide +kernel
theorem tyJxf0a74_ok : ∀ k, k < 0 → parseFieldDescriptor (TJxf0a74 k).2.2.1 = some (tyJxf0a74 k) := by decide +kernel
def RJxa66e6 : String := "java/util/SequencedCollection"
def TJxa66e6 : u_T := fun k => match k with
  | _ => ("", "", "", false)
def tyJxa66e6 : Nat → FieldType := fun k => match k with
  | _ => .int
abbrev wsJxa66e60 : List Cond := u_ws RJxa66e6 TJxa66e6 0
theorem nmJxa66e6 : ∀ a, a < 0 → ∀ b, b < 0 → a ≠ b → (TJxa66e6 a).2.1 ≠ (TJxa66e6 b).2.1 := by decide +kernel
theorem tyJxa66e6_ok : ∀ k, k < 0 → parseFieldDescriptor (TJxa66e6 k).2.2.1 = some (tyJxa66e6 k) := by decide +kernel
def RJ8 : String := "jdk/internal/util/ArraysSupport"
def TJ8 : u_T := fun k => match k with
  | _ => ("", "", "", false)
def tyJ8 : Nat → FieldType := fun k => match k with
  | _ => .int
abbrev wsJ80 : List Cond := u_ws RJ8 TJ8 0
theorem nmJ8 : ∀ a, a < 0 → ∀ b, b < 0 → a ≠ b → (TJ8 a).2.1 ≠ (TJ8 b).2.1 := by decide +kernel
theorem tyJ8_ok : ∀ k, k < 0 → parseFieldDescriptor (TJ8 k).2.2.1 = some (tyJ8 k) := by decide +kernel
abbrev cJ8_newLength_cabcc : ByteArray := prog_28_method_27_code
def yJ8_newLength_cabcc : MethodName := ⟨RJ8, "newLength", "(III)I"⟩
abbrev cJ8_hugeLength_7cf53 : ByteArray := prog_28_method_28_code
def yJ8_hugeLength_7cf53 : MethodName := ⟨RJ8, "hugeLength", "(II)I"⟩
def RJ3 : String := "jdk/internal/util/Preconditions"
def TJ3 : u_T := fun k => match k with
  | _ => ("", "", "", false)
def tyJ3 : Nat → FieldType := fun k => match k with
  | _ => .int
abbrev wsJ30 : List Cond := u_ws RJ3 TJ3 0
theorem nmJ3 : ∀ a, a < 0 → ∀ b, b < 0 → a ≠ b → (TJ3 a).2.1 ≠ (TJ3 b).2.1 := by decide +kernel
theorem tyJ3_ok : ∀ k, k < 0 → parseFieldDescriptor (TJ3 k).2.2.1 = some (tyJ3 k) := by decide +kernel
abbrev cJ3_checkIndex_8e157 : ByteArray := prog_29_method_11_code
def yJ3_checkIndex_8e157 : MethodName := ⟨RJ3, "checkIndex", "(IILjava/util/function/BiFunction;)I"⟩
def RL : String := "TakeoffSheetLaw"
abbrev cL_begin : ByteArray := method_3_code
def yL_begin : MethodName := ⟨RL, "begin", "(LTakeoffSheet;II)I"⟩
abbrev cL_wall : ByteArray := method_4_code
def yL_wall : MethodName := ⟨RL, "wall", "(LTakeoffSheet;II[J)I"⟩
abbrev cL_opening : ByteArray := method_5_code
def yL_opening : MethodName := ⟨RL, "opening", "(LTakeoffSheet;II[J)I"⟩
abbrev cL_limit : ByteArray := method_6_code
def yL_limit : MethodName := ⟨RL, "limit", "(LTakeoffSheet;I[J)I"⟩
abbrev cL_area : ByteArray := method_7_code
def yL_area : MethodName := ⟨RL, "area", "(LTakeoffSheet;[J)I"⟩
abbrev cL_areaByStrips : ByteArray := method_8_code
def yL_areaByStrips : MethodName := ⟨RL, "areaByStrips", "(LTakeoffSheet;[J)I"⟩
abbrev cL_netArea : ByteArray := method_9_code
def yL_netArea : MethodName := ⟨RL, "netArea", "(LTakeoffSheet;[J)I"⟩
abbrev cL_rate : ByteArray := method_10_code
def yL_rate : MethodName := ⟨RL, "rate", "(LTakeoffSheet;III[J)I"⟩
abbrev cL_price : ByteArray := method_11_code
def yL_price : MethodName := ⟨RL, "price", "(LTakeoffSheet;II[J)I"⟩
abbrev cL_rateOf : ByteArray := method_12_code
def yL_rateOf : MethodName := ⟨RL, "rateOf", "(LTakeoffSheet;I[J)I"⟩
abbrev cL_heading : ByteArray := method_13_code
def yL_heading : MethodName := ⟨RL, "heading", "(LTakeoffSheet;I[J)I"⟩
abbrev cL_leaf : ByteArray := method_14_code
def yL_leaf : MethodName := ⟨RL, "leaf", "(LTakeoffSheet;III[J)I"⟩
abbrev cL_take : ByteArray := method_15_code
def yL_take : MethodName := ⟨RL, "take", "(LTakeoffSheet;II[J)I"⟩
abbrev cL_vary : ByteArray := method_16_code
def yL_vary : MethodName := ⟨RL, "vary", "(LTakeoffSheet;II[J)I"⟩
abbrev cL_quantity : ByteArray := method_17_code
def yL_quantity : MethodName := ⟨RL, "quantity", "(LTakeoffSheet;I[J)I"⟩
abbrev cL_sum : ByteArray := method_18_code
def yL_sum : MethodName := ⟨RL, "sum", "(LTakeoffSheet;I[J)I"⟩
abbrev cL_dearest : ByteArray := method_19_code
def yL_dearest : MethodName := ⟨RL, "dearest", "(LTakeoffSheet;I[J)I"⟩
abbrev cL_done : ByteArray := method_20_code
def yL_done : MethodName := ⟨RL, "done", "(LTakeoffSheet;II[J)I"⟩
abbrev cL_retention : ByteArray := method_21_code
def yL_retention : MethodName := ⟨RL, "retention", "(LTakeoffSheet;I[J)I"⟩
abbrev cL_claim : ByteArray := method_22_code
def yL_claim : MethodName := ⟨RL, "claim", "(LTakeoffSheet;[J)I"⟩
abbrev cL_law : ByteArray := code
def yL_law : MethodName := ⟨RL, "law", "([I)Z"⟩
def wsX0_init : List Cond := .code yX0_init cX0_init 1 none :: ([.methodLink RX0 3 objectInit, .instanceMethod objectInit, .code objectInit ⟨#[0xb1]⟩ 1 none, .arrayClass .long, .fieldLink RX0 9 "TakeoffSheet$Drawing" "over" "[J", .fieldLink RX0 15 "TakeoffSheet$Drawing" "wallsNorth" "[J", .arrayClass .int, .fieldLink RX0 18 "TakeoffSheet$Drawing" "openings" "[I"] ++ wsX00)
def wsJ7_fill_d0a16 : List Cond := .code yJ7_fill_d0a16 cJ7_fill_d0a16 5 none :: ([])
def wsJ7_fill_53178 : List Cond := .code yJ7_fill_53178 cJ7_fill_53178 4 none :: ([])
def wsX0_isPlace : List Cond := .code yX0_isPlace cX0_isPlace 2 (some .boolean) :: ([])
def wsX0_mark : List Cond := .code yX0_mark cX0_mark 3 none :: ([.methodLink RX0 101 yX0_isPlace, .static yX0_isPlace, .initialized RX0, .code yX0_isPlace cX0_isPlace 2 (some .boolean)])
def wsX0_startAt_r1 : List Cond := [Cond.fieldLink RX0 9 "TakeoffSheet$Drawing" "over" "[J", Cond.fieldLink RX0 15 "TakeoffSheet$Drawing" "wallsNorth" "[J", Cond.fieldLink RX0 18 "TakeoffSheet$Drawing" "openings" "[I", Cond.fieldLink RX0 31 "TakeoffSheet$Drawing" "openingCount" "I", Cond.fieldLink RX0 35 "TakeoffSheet$Drawing" "otherPlaces" "I", Cond.fieldLink RX0 38 "TakeoffSheet$Drawing" "twiceArea" "I", Cond.fieldLink RX0 41 "TakeoffSheet$Drawing" "beginX" "I", Cond.fieldLink RX0 44 "TakeoffSheet$Drawing" "beginY" "I", Cond.fieldLink RX0 47 "TakeoffSheet$Drawing" "x" "I", Cond.fieldLink RX0 50 "TakeoffSheet$Drawing" "y" "I", Cond.fieldLink RX0 57 "TakeoffSheet$Drawing" "begun" "Z", Cond.fieldLink RX0 61 "TakeoffSheet$Drawing" "closed" "Z", Cond.methodLink RX0 22 yJ7_fill_d0a16, Cond.static yJ7_fill_d0a16, Cond.initialized RJ7, Cond.code yJ7_fill_d0a16 cJ7_fill_d0a16 5 none, Cond.methodLink RX0 28 yJ7_fill_53178, Cond.static yJ7_fill_53178, Cond.code yJ7_fill_53178 cJ7_fill_53178 4 none, Cond.methodLink RX0 53 yX0_mark, Cond.static yX0_mark, Cond.initialized RX0, Cond.code yX0_mark cX0_mark 3 none, Cond.methodLink RX0 101 yX0_isPlace]
def wsX0_startAt_r2 : List Cond := [Cond.static yX0_isPlace, Cond.code yX0_isPlace cX0_isPlace 2 (some .boolean)]
def wsX0_startAt : List Cond := .code yX0_startAt cX0_startAt 3 none :: ((wsX0_startAt_r1 ++ wsX0_startAt_r2) ++ wsX00)
def wsX0_takeAway : List Cond := .code yX0_takeAway cX0_takeAway 1 none :: ([.fieldLink RX0 57 "TakeoffSheet$Drawing" "begun" "Z", .fieldLink RX0 61 "TakeoffSheet$Drawing" "closed" "Z"] ++ wsX00)
def wsX0_eastward : List Cond := .code yX0_eastward cX0_eastward 1 (some .int) :: ([])
def wsX0_northward : List Cond := .code yX0_northward cX0_northward 1 (some .int) :: ([])
def wsX0_isMarked : List Cond := .code yX0_isMarked cX0_isMarked 3 (some .boolean) :: ([.methodLink RX0 101 yX0_isPlace, .static yX0_isPlace, .initialized RX0, .code yX0_isPlace cX0_isPlace 2 (some .boolean)])
def wsX0_isFree : List Cond := .code yX0_isFree cX0_isFree 3 (some .boolean) :: ([.fieldLink RX0 9 "TakeoffSheet$Drawing" "over" "[J", .methodLink RX0 101 yX0_isPlace, .static yX0_isPlace, .initialized RX0, .code yX0_isPlace cX0_isPlace 2 (some .boolean), .methodLink RX0 97 yX0_isMarked, .static yX0_isMarked, .code yX0_isMarked cX0_isMarked 3 (some .boolean)] ++ wsX00)
def wsX0_closesAt : List Cond := .code yX0_closesAt cX0_closesAt 3 (some .boolean) :: ([.fieldLink RX0 41 "TakeoffSheet$Drawing" "beginX" "I", .fieldLink RX0 44 "TakeoffSheet$Drawing" "beginY" "I", .fieldLink RX0 35 "TakeoffSheet$Drawing" "otherPlaces" "I"] ++ wsX00)
def wsX0_admits_r1 : List Cond := [Cond.fieldLink RX0 47 "TakeoffSheet$Drawing" "x" "I", Cond.fieldLink RX0 50 "TakeoffSheet$Drawing" "y" "I", Cond.methodLink RX0 64 yX0_eastward, Cond.static yX0_eastward, Cond.initialized RX0, Cond.code yX0_eastward cX0_eastward 1 (some .int), Cond.methodLink RX0 68 yX0_northward, Cond.static yX0_northward, Cond.code yX0_northward cX0_northward 1 (some .int), Cond.methodLink RX0 71 yX0_isFree, Cond.instanceMethod yX0_isFree, Cond.selects RX0 yX0_isFree yX0_isFree, Cond.code yX0_isFree cX0_isFree 3 (some .boolean), Cond.fieldLink RX0 9 "TakeoffSheet$Drawing" "over" "[J", Cond.methodLink RX0 101 yX0_isPlace, Cond.static yX0_isPlace, Cond.code yX0_isPlace cX0_isPlace 2 (some .boolean), Cond.methodLink RX0 97 yX0_isMarked, Cond.static yX0_isMarked, Cond.code yX0_isMarked cX0_isMarked 3 (some .boolean), Cond.methodLink RX0 75 yX0_closesAt, Cond.instanceMethod yX0_closesAt, Cond.selects RX0 yX0_closesAt yX0_closesAt, Cond.code yX0_closesAt cX0_closesAt 3 (some .boolean)]
def wsX0_admits_r2 : List Cond := [Cond.fieldLink RX0 41 "TakeoffSheet$Drawing" "beginX" "I", Cond.fieldLink RX0 44 "TakeoffSheet$Drawing" "beginY" "I", Cond.fieldLink RX0 35 "TakeoffSheet$Drawing" "otherPlaces" "I"]
def wsX0_admits : List Cond := .code yX0_admits cX0_admits 7 (some .boolean) :: ((wsX0_admits_r1 ++ wsX0_admits_r2) ++ wsX00)
def wsX0_goOn_r1 : List Cond := [Cond.fieldLink RX0 9 "TakeoffSheet$Drawing" "over" "[J", Cond.fieldLink RX0 47 "TakeoffSheet$Drawing" "x" "I", Cond.fieldLink RX0 50 "TakeoffSheet$Drawing" "y" "I", Cond.methodLink RX0 78 Lib.Math.min.name, Cond.static Lib.Math.min.name, Cond.initialized "java/lang/Math", Cond.code Lib.Math.min.name Lib.Math.min.code 2 (some .int), Cond.methodLink RX0 84 Lib.Math.max.name, Cond.static Lib.Math.max.name, Cond.code Lib.Math.max.name Lib.Math.max.code 2 (some .int), Cond.fieldLink RX0 15 "TakeoffSheet$Drawing" "wallsNorth" "[J", Cond.fieldLink RX0 38 "TakeoffSheet$Drawing" "twiceArea" "I", Cond.fieldLink RX0 35 "TakeoffSheet$Drawing" "otherPlaces" "I", Cond.fieldLink RX0 41 "TakeoffSheet$Drawing" "beginX" "I", Cond.fieldLink RX0 44 "TakeoffSheet$Drawing" "beginY" "I", Cond.fieldLink RX0 61 "TakeoffSheet$Drawing" "closed" "Z", Cond.methodLink RX0 64 yX0_eastward, Cond.static yX0_eastward, Cond.initialized RX0, Cond.code yX0_eastward cX0_eastward 1 (some .int), Cond.methodLink RX0 68 yX0_northward, Cond.static yX0_northward, Cond.code yX0_northward cX0_northward 1 (some .int), Cond.methodLink RX0 53 yX0_mark]
def wsX0_goOn_r2 : List Cond := [Cond.static yX0_mark, Cond.code yX0_mark cX0_mark 3 none, Cond.methodLink RX0 101 yX0_isPlace, Cond.static yX0_isPlace, Cond.code yX0_isPlace cX0_isPlace 2 (some .boolean)]
def wsX0_goOn : List Cond := .code yX0_goOn cX0_goOn 8 none :: ((wsX0_goOn_r1 ++ wsX0_goOn_r2) ++ wsX00)
def wsX0_addOpening : List Cond := .code yX0_addOpening cX0_addOpening 2 (some .boolean) :: ([.fieldLink RX0 31 "TakeoffSheet$Drawing" "openingCount" "I", .fieldLink RX0 18 "TakeoffSheet$Drawing" "openings" "[I"] ++ wsX00)
def wsX0_areaByCorners : List Cond := .code yX0_areaByCorners cX0_areaByCorners 1 (some .int) :: ([.fieldLink RX0 38 "TakeoffSheet$Drawing" "twiceArea" "I", .methodLink RX0 87 Lib.Math.abs.name, .static Lib.Math.abs.name, .initialized "java/lang/Math", .code Lib.Math.abs.name Lib.Math.abs.code 1 (some .int)] ++ wsX00)
def wsX0_squaresInStrip : List Cond := .code yX0_squaresInStrip cX0_squaresInStrip 5 (some .int) :: ([.fieldLink RX0 15 "TakeoffSheet$Drawing" "wallsNorth" "[J", .methodLink RX0 97 yX0_isMarked, .static yX0_isMarked, .initialized RX0, .code yX0_isMarked cX0_isMarked 3 (some .boolean), .methodLink RX0 101 yX0_isPlace, .static yX0_isPlace, .code yX0_isPlace cX0_isPlace 2 (some .boolean)] ++ wsX00)
def wsX0_squaresInside : List Cond := .code yX0_squaresInside cX0_squaresInside 3 (some .int) :: ([.methodLink RX0 90 yX0_squaresInStrip, .instanceMethod yX0_squaresInStrip, .selects RX0 yX0_squaresInStrip yX0_squaresInStrip, .initialized RX0, .code yX0_squaresInStrip cX0_squaresInStrip 5 (some .int), .fieldLink RX0 15 "TakeoffSheet$Drawing" "wallsNorth" "[J", .methodLink RX0 97 yX0_isMarked, .static yX0_isMarked, .code yX0_isMarked cX0_isMarked 3 (some .boolean), .methodLink RX0 101 yX0_isPlace, .static yX0_isPlace, .code yX0_isPlace cX0_isPlace 2 (some .boolean)] ++ wsX00)
def wsX0_areaLeft : List Cond := .code yX0_areaLeft cX0_areaLeft 4 (some .int) :: ([.fieldLink RX0 18 "TakeoffSheet$Drawing" "openings" "[I", .methodLink RX0 84 Lib.Math.max.name, .static Lib.Math.max.name, .initialized "java/lang/Math", .code Lib.Math.max.name Lib.Math.max.code 2 (some .int), .methodLink RX0 93 yX0_areaByCorners, .instanceMethod yX0_areaByCorners, .selects RX0 yX0_areaByCorners yX0_areaByCorners, .initialized RX0, .code yX0_areaByCorners cX0_areaByCorners 1 (some .int), .fieldLink RX0 38 "TakeoffSheet$Drawing" "twiceArea" "I", .methodLink RX0 87 Lib.Math.abs.name, .static Lib.Math.abs.name, .code Lib.Math.abs.name Lib.Math.abs.code 1 (some .int)] ++ wsX00)
def wsX1_init : List Cond := .code yX1_init cX1_init 4 none :: ([.methodLink RX1 3 objectInit, .instanceMethod objectInit, .code objectInit ⟨#[0xb1]⟩ 1 none, .fieldLink RX1 9 "TakeoffSheet$Item" "parent" "LTakeoffSheet$Item;", .fieldLink RX1 15 "TakeoffSheet$Item" "rate" "LTakeoffSheet$Rate;", .fieldLink RX1 19 "TakeoffSheet$Item" "waste" "I"] ++ wsX10)
def wsX1_isLeaf : List Cond := .code yX1_isLeaf cX1_isLeaf 1 (some .boolean) :: ([.fieldLink RX1 15 "TakeoffSheet$Item" "rate" "LTakeoffSheet$Rate;"] ++ wsX10)
def wsX1_standsUnder : List Cond := .code yX1_standsUnder cX1_standsUnder 3 (some .boolean) :: ([.fieldLink RX1 9 "TakeoffSheet$Item" "parent" "LTakeoffSheet$Item;"] ++ wsX10)
def wsX3_hundredthsRoundedUp : List Cond := .code yX3_hundredthsRoundedUp cX3_hundredthsRoundedUp 2 (some .long) :: ([.constantLong RX3 176 (100)])
def wsX1_measureWithWaste : List Cond := .code yX1_measureWithWaste cX1_measureWithWaste 1 (some .long) :: ([.fieldLink RX1 23 "TakeoffSheet$Item" "measure" "I", .fieldLink RX1 19 "TakeoffSheet$Item" "waste" "I", .static yX3_hundredthsRoundedUp, .initialized RX3, .code yX3_hundredthsRoundedUp cX3_hundredthsRoundedUp 2 (some .long), .constantLong RX3 176 (100)] ++ wsX10)
def wsX2_init : List Cond := .code yX2_init cX2_init 4 none :: ([.methodLink RX2 1 objectInit, .instanceMethod objectInit, .code objectInit ⟨#[0xb1]⟩ 1 none, .fieldLink RX2 7 "TakeoffSheet$Rate" "labour" "I", .fieldLink RX2 13 "TakeoffSheet$Rate" "plant" "I", .fieldLink RX2 16 "TakeoffSheet$Rate" "material" "I"] ++ wsX20)
def wsX2_isOf : List Cond := .code yX2_isOf cX2_isOf 4 (some .boolean) :: ([.fieldLink RX2 7 "TakeoffSheet$Rate" "labour" "I", .fieldLink RX2 13 "TakeoffSheet$Rate" "plant" "I", .fieldLink RX2 16 "TakeoffSheet$Rate" "material" "I"] ++ wsX20)
def wsJxa1e45_init_da8c8 : List Cond := .code yJxa1e45_init_da8c8 cJxa1e45_init_da8c8 1 none :: ([.methodLink RJxa1e45 1 objectInit, .instanceMethod objectInit, .code objectInit ⟨#[0xb1]⟩ 1 none])
def wsJxc12de_init_da8c8 : List Cond := .code yJxc12de_init_da8c8 cJxc12de_init_da8c8 1 none :: ([.fieldLink RJxc12de 7 "java/util/AbstractList" "modCount" "I", .methodLink RJxc12de 1 yJxa1e45_init_da8c8, .instanceMethod yJxa1e45_init_da8c8, .initialized RJxa1e45, .code yJxa1e45_init_da8c8 cJxa1e45_init_da8c8 1 none, .methodLink RJxa1e45 1 objectInit, .instanceMethod objectInit, .code objectInit ⟨#[0xb1]⟩ 1 none] ++ wsJx4a65c0)
def wsJx4a65c_init_da8c8 : List Cond := .code yJx4a65c_init_da8c8 cJx4a65c_init_da8c8 1 none :: ([.fieldLink RJx4a65c 39 "java/util/ArrayList" "DEFAULTCAPACITY_EMPTY_ELEMENTDATA" "[Ljava/lang/Object;", .fieldLink RJx4a65c 9 "java/util/ArrayList" "elementData" "[Ljava/lang/Object;", .methodLink RJx4a65c 1 yJxc12de_init_da8c8, .instanceMethod yJxc12de_init_da8c8, .initialized RJxc12de, .code yJxc12de_init_da8c8 cJxc12de_init_da8c8 1 none, .fieldLink RJxc12de 7 "java/util/AbstractList" "modCount" "I", .methodLink RJxc12de 1 yJxa1e45_init_da8c8, .instanceMethod yJxa1e45_init_da8c8, .initialized RJxa1e45, .code yJxa1e45_init_da8c8 cJxa1e45_init_da8c8 1 none, .methodLink RJxa1e45 1 objectInit, .instanceMethod objectInit, .code objectInit ⟨#[0xb1]⟩ 1 none] ++ wsJx4a65c0)
def wsX3_init_r1 : List Cond := [Cond.methodLink RX3 1 objectInit, Cond.instanceMethod objectInit, Cond.code objectInit ⟨#[0xb1]⟩ 1 none, Cond.classLink RX3 7 RX0, Cond.instantiable RX0 12, Cond.initialized RX0, Cond.fieldLink RX3 10 "TakeoffSheet" "drawing" "LTakeoffSheet$Drawing;", Cond.classLink RX3 16 RJx4a65c, Cond.instantiable RJx4a65c 3, Cond.initialized RJx4a65c, Cond.fieldLink RX3 19 "TakeoffSheet" "rates" "Ljava/util/ArrayList;", Cond.fieldLink RX3 23 "TakeoffSheet" "items" "Ljava/util/ArrayList;", Cond.arrayClass .int, Cond.fieldLink RX3 26 "TakeoffSheet" "prices" "[I", Cond.fieldLink RX3 30 "TakeoffSheet" "limit" "I", Cond.fieldLink RX3 34 "TakeoffSheet" "retention" "I", Cond.fieldLink RX3 37 "TakeoffSheet" "claimed" "J", Cond.instanceMethod yX0_init, Cond.code yX0_init cX0_init 1 none, Cond.methodLink RX0 3 objectInit, Cond.arrayClass .long, Cond.fieldLink RX0 9 "TakeoffSheet$Drawing" "over" "[J", Cond.fieldLink RX0 15 "TakeoffSheet$Drawing" "wallsNorth" "[J", Cond.fieldLink RX0 18 "TakeoffSheet$Drawing" "openings" "[I"]
def wsX3_init_r2 : List Cond := [Cond.methodLink RX3 18 yJx4a65c_init_da8c8, Cond.instanceMethod yJx4a65c_init_da8c8, Cond.code yJx4a65c_init_da8c8 cJx4a65c_init_da8c8 1 none, Cond.fieldLink RJx4a65c 39 "java/util/ArrayList" "DEFAULTCAPACITY_EMPTY_ELEMENTDATA" "[Ljava/lang/Object;", Cond.fieldLink RJx4a65c 9 "java/util/ArrayList" "elementData" "[Ljava/lang/Object;", Cond.methodLink RJx4a65c 1 yJxc12de_init_da8c8, Cond.instanceMethod yJxc12de_init_da8c8, Cond.initialized RJxc12de, Cond.code yJxc12de_init_da8c8 cJxc12de_init_da8c8 1 none, Cond.fieldLink RJxc12de 7 "java/util/AbstractList" "modCount" "I", Cond.methodLink RJxc12de 1 yJxa1e45_init_da8c8, Cond.instanceMethod yJxa1e45_init_da8c8, Cond.initialized RJxa1e45, Cond.code yJxa1e45_init_da8c8 cJxa1e45_init_da8c8 1 none, Cond.methodLink RJxa1e45 1 objectInit]
def wsX3_init : List Cond := .code yX3_init cX3_init 1 none :: ((wsX3_init_r1 ++ wsX3_init_r2) ++ wsX00 ++ wsX30 ++ wsJx4a65c0)
def wsX3_checkRange : List Cond := .code yX3_checkRange cX3_checkRange 3 none :: ([.classLink RX3 190 "java/lang/IllegalArgumentException", .initialized "java/lang/IllegalArgumentException"] ++ (vx_atS RX3 194 "java/lang/IllegalArgumentException" ["java/lang/RuntimeException", "java/lang/Exception"]).filter goodWord)
def wsX3_begin_r1 : List Cond := [Cond.fieldLink RX3 10 "TakeoffSheet" "drawing" "LTakeoffSheet$Drawing;", Cond.methodLink RX3 41 yX3_checkRange, Cond.static yX3_checkRange, Cond.initialized RX3, Cond.code yX3_checkRange cX3_checkRange 3 none, Cond.classLink RX3 190 "java/lang/IllegalArgumentException", Cond.initialized "java/lang/IllegalArgumentException", Cond.methodLink RX3 45 yX0_startAt, Cond.instanceMethod yX0_startAt, Cond.selects RX0 yX0_startAt yX0_startAt, Cond.initialized RX0, Cond.code yX0_startAt cX0_startAt 3 none, Cond.fieldLink RX0 9 "TakeoffSheet$Drawing" "over" "[J", Cond.fieldLink RX0 15 "TakeoffSheet$Drawing" "wallsNorth" "[J", Cond.fieldLink RX0 18 "TakeoffSheet$Drawing" "openings" "[I", Cond.fieldLink RX0 31 "TakeoffSheet$Drawing" "openingCount" "I", Cond.fieldLink RX0 35 "TakeoffSheet$Drawing" "otherPlaces" "I", Cond.fieldLink RX0 38 "TakeoffSheet$Drawing" "twiceArea" "I", Cond.fieldLink RX0 41 "TakeoffSheet$Drawing" "beginX" "I", Cond.fieldLink RX0 44 "TakeoffSheet$Drawing" "beginY" "I", Cond.fieldLink RX0 47 "TakeoffSheet$Drawing" "x" "I", Cond.fieldLink RX0 50 "TakeoffSheet$Drawing" "y" "I", Cond.fieldLink RX0 57 "TakeoffSheet$Drawing" "begun" "Z", Cond.fieldLink RX0 61 "TakeoffSheet$Drawing" "closed" "Z"]
def wsX3_begin_r2 : List Cond := [Cond.methodLink RX0 22 yJ7_fill_d0a16, Cond.static yJ7_fill_d0a16, Cond.initialized RJ7, Cond.code yJ7_fill_d0a16 cJ7_fill_d0a16 5 none, Cond.methodLink RX0 28 yJ7_fill_53178, Cond.static yJ7_fill_53178, Cond.code yJ7_fill_53178 cJ7_fill_53178 4 none, Cond.methodLink RX0 53 yX0_mark, Cond.static yX0_mark, Cond.code yX0_mark cX0_mark 3 none, Cond.methodLink RX0 101 yX0_isPlace, Cond.static yX0_isPlace, Cond.code yX0_isPlace cX0_isPlace 2 (some .boolean)]
def wsX3_begin : List Cond := .code yX3_begin cX3_begin 3 none :: ((wsX3_begin_r1 ++ wsX3_begin_r2) ++ wsX30 ++ wsX00 ++ (vx_atS RX3 194 "java/lang/IllegalArgumentException" ["java/lang/RuntimeException", "java/lang/Exception"]).filter goodWord)
def wsX3_wall_r1 : List Cond := [Cond.classLink RX3 56 "java/lang/IllegalStateException", Cond.initialized "java/lang/IllegalStateException", Cond.classLink RX3 67 "java/lang/IndexOutOfBoundsException", Cond.initialized "java/lang/IndexOutOfBoundsException", Cond.fieldLink RX3 10 "TakeoffSheet" "drawing" "LTakeoffSheet$Drawing;", Cond.fieldLink RX3 49 "TakeoffSheet$Drawing" "begun" "Z", Cond.fieldLink RX3 53 "TakeoffSheet$Drawing" "closed" "Z", Cond.methodLink RX3 41 yX3_checkRange, Cond.static yX3_checkRange, Cond.initialized RX3, Cond.code yX3_checkRange cX3_checkRange 3 none, Cond.classLink RX3 190 "java/lang/IllegalArgumentException", Cond.initialized "java/lang/IllegalArgumentException", Cond.methodLink RX3 63 yX0_admits, Cond.instanceMethod yX0_admits, Cond.selects RX0 yX0_admits yX0_admits, Cond.initialized RX0, Cond.code yX0_admits cX0_admits 7 (some .boolean), Cond.fieldLink RX0 47 "TakeoffSheet$Drawing" "x" "I", Cond.fieldLink RX0 50 "TakeoffSheet$Drawing" "y" "I", Cond.methodLink RX0 64 yX0_eastward, Cond.static yX0_eastward, Cond.code yX0_eastward cX0_eastward 1 (some .int), Cond.methodLink RX0 68 yX0_northward]
def wsX3_wall_r2 : List Cond := [Cond.static yX0_northward, Cond.code yX0_northward cX0_northward 1 (some .int), Cond.methodLink RX0 71 yX0_isFree, Cond.instanceMethod yX0_isFree, Cond.selects RX0 yX0_isFree yX0_isFree, Cond.code yX0_isFree cX0_isFree 3 (some .boolean), Cond.fieldLink RX0 9 "TakeoffSheet$Drawing" "over" "[J", Cond.methodLink RX0 101 yX0_isPlace, Cond.static yX0_isPlace, Cond.code yX0_isPlace cX0_isPlace 2 (some .boolean), Cond.methodLink RX0 97 yX0_isMarked, Cond.static yX0_isMarked, Cond.code yX0_isMarked cX0_isMarked 3 (some .boolean), Cond.methodLink RX0 75 yX0_closesAt, Cond.instanceMethod yX0_closesAt, Cond.selects RX0 yX0_closesAt yX0_closesAt, Cond.code yX0_closesAt cX0_closesAt 3 (some .boolean), Cond.fieldLink RX0 41 "TakeoffSheet$Drawing" "beginX" "I", Cond.fieldLink RX0 44 "TakeoffSheet$Drawing" "beginY" "I", Cond.fieldLink RX0 35 "TakeoffSheet$Drawing" "otherPlaces" "I", Cond.methodLink RX3 72 yX0_goOn, Cond.instanceMethod yX0_goOn, Cond.selects RX0 yX0_goOn yX0_goOn, Cond.code yX0_goOn cX0_goOn 8 none]
def wsX3_wall_r3 : List Cond := [Cond.methodLink RX0 78 Lib.Math.min.name, Cond.static Lib.Math.min.name, Cond.initialized "java/lang/Math", Cond.code Lib.Math.min.name Lib.Math.min.code 2 (some .int), Cond.methodLink RX0 84 Lib.Math.max.name, Cond.static Lib.Math.max.name, Cond.code Lib.Math.max.name Lib.Math.max.code 2 (some .int), Cond.fieldLink RX0 15 "TakeoffSheet$Drawing" "wallsNorth" "[J", Cond.fieldLink RX0 38 "TakeoffSheet$Drawing" "twiceArea" "I", Cond.fieldLink RX0 61 "TakeoffSheet$Drawing" "closed" "Z", Cond.methodLink RX0 53 yX0_mark, Cond.static yX0_mark, Cond.code yX0_mark cX0_mark 3 none]
def wsX3_wall : List Cond := .code yX3_wall cX3_wall 3 (some .boolean) :: ((wsX3_wall_r1 ++ (wsX3_wall_r2 ++ wsX3_wall_r3)) ++ wsX30 ++ wsX00 ++ (vx_atS RX3 60 "java/lang/IllegalStateException" ["java/lang/RuntimeException", "java/lang/Exception"]).filter goodWord ++ (vx_atS RX3 71 "java/lang/IndexOutOfBoundsException" ["java/lang/RuntimeException", "java/lang/Exception"]).filter goodWord ++ (vx_atS RX3 194 "java/lang/IllegalArgumentException" ["java/lang/RuntimeException", "java/lang/Exception"]).filter goodWord)
def wsX3_checkClosed : List Cond := .code yX3_checkClosed cX3_checkClosed 1 none :: ([.classLink RX3 56 "java/lang/IllegalStateException", .initialized "java/lang/IllegalStateException", .fieldLink RX3 10 "TakeoffSheet" "drawing" "LTakeoffSheet$Drawing;", .fieldLink RX3 53 "TakeoffSheet$Drawing" "closed" "Z"] ++ wsX30 ++ wsX00 ++ (vx_atS RX3 60 "java/lang/IllegalStateException" ["java/lang/RuntimeException", "java/lang/Exception"]).filter goodWord)
def wsX3_opening : List Cond := .code yX3_opening cX3_opening 3 (some .int) :: ([.classLink RX3 56 "java/lang/IllegalStateException", .initialized "java/lang/IllegalStateException", .fieldLink RX3 10 "TakeoffSheet" "drawing" "LTakeoffSheet$Drawing;", .fieldLink RX3 84 "TakeoffSheet$Drawing" "openingCount" "I", .methodLink RX3 41 yX3_checkRange, .static yX3_checkRange, .initialized RX3, .code yX3_checkRange cX3_checkRange 3 none, .classLink RX3 190 "java/lang/IllegalArgumentException", .initialized "java/lang/IllegalArgumentException", .methodLink RX3 75 yX3_checkClosed, .instanceMethod yX3_checkClosed, .selects RX3 yX3_checkClosed yX3_checkClosed, .code yX3_checkClosed cX3_checkClosed 1 none, .fieldLink RX3 53 "TakeoffSheet$Drawing" "closed" "Z", .methodLink RX3 78 yX0_addOpening, .instanceMethod yX0_addOpening, .selects RX0 yX0_addOpening yX0_addOpening, .initialized RX0, .code yX0_addOpening cX0_addOpening 2 (some .boolean), .fieldLink RX0 31 "TakeoffSheet$Drawing" "openingCount" "I", .fieldLink RX0 18 "TakeoffSheet$Drawing" "openings" "[I"] ++ wsX30 ++ wsX00 ++ (vx_atS RX3 60 "java/lang/IllegalStateException" ["java/lang/RuntimeException", "java/lang/Exception"]).filter goodWord ++ (vx_atS RX3 194 "java/lang/IllegalArgumentException" ["java/lang/RuntimeException", "java/lang/Exception"]).filter goodWord)
def wsX3_limit : List Cond := .code yX3_limit cX3_limit 3 (some .int) :: ([.fieldLink RX3 30 "TakeoffSheet" "limit" "I", .methodLink RX3 41 yX3_checkRange, .static yX3_checkRange, .initialized RX3, .code yX3_checkRange cX3_checkRange 3 none, .classLink RX3 190 "java/lang/IllegalArgumentException", .initialized "java/lang/IllegalArgumentException"] ++ wsX30 ++ (vx_atS RX3 194 "java/lang/IllegalArgumentException" ["java/lang/RuntimeException", "java/lang/Exception"]).filter goodWord)
def wsX3_area : List Cond := .code yX3_area cX3_area 1 (some .int) :: ([.fieldLink RX3 10 "TakeoffSheet" "drawing" "LTakeoffSheet$Drawing;", .methodLink RX3 75 yX3_checkClosed, .instanceMethod yX3_checkClosed, .selects RX3 yX3_checkClosed yX3_checkClosed, .initialized RX3, .code yX3_checkClosed cX3_checkClosed 1 none, .classLink RX3 56 "java/lang/IllegalStateException", .initialized "java/lang/IllegalStateException", .fieldLink RX3 53 "TakeoffSheet$Drawing" "closed" "Z", .methodLink RX3 87 yX0_areaByCorners, .instanceMethod yX0_areaByCorners, .selects RX0 yX0_areaByCorners yX0_areaByCorners, .initialized RX0, .code yX0_areaByCorners cX0_areaByCorners 1 (some .int), .fieldLink RX0 38 "TakeoffSheet$Drawing" "twiceArea" "I", .methodLink RX0 87 Lib.Math.abs.name, .static Lib.Math.abs.name, .initialized "java/lang/Math", .code Lib.Math.abs.name Lib.Math.abs.code 1 (some .int)] ++ wsX30 ++ wsX00 ++ (vx_atS RX3 60 "java/lang/IllegalStateException" ["java/lang/RuntimeException", "java/lang/Exception"]).filter goodWord)
def wsX3_areaByStrips_r1 : List Cond := [Cond.fieldLink RX3 10 "TakeoffSheet" "drawing" "LTakeoffSheet$Drawing;", Cond.methodLink RX3 75 yX3_checkClosed, Cond.instanceMethod yX3_checkClosed, Cond.selects RX3 yX3_checkClosed yX3_checkClosed, Cond.initialized RX3, Cond.code yX3_checkClosed cX3_checkClosed 1 none, Cond.classLink RX3 56 "java/lang/IllegalStateException", Cond.initialized "java/lang/IllegalStateException", Cond.fieldLink RX3 53 "TakeoffSheet$Drawing" "closed" "Z", Cond.methodLink RX3 91 yX0_squaresInside, Cond.instanceMethod yX0_squaresInside, Cond.selects RX0 yX0_squaresInside yX0_squaresInside, Cond.initialized RX0, Cond.code yX0_squaresInside cX0_squaresInside 3 (some .int), Cond.methodLink RX0 90 yX0_squaresInStrip, Cond.instanceMethod yX0_squaresInStrip, Cond.selects RX0 yX0_squaresInStrip yX0_squaresInStrip, Cond.code yX0_squaresInStrip cX0_squaresInStrip 5 (some .int), Cond.fieldLink RX0 15 "TakeoffSheet$Drawing" "wallsNorth" "[J", Cond.methodLink RX0 97 yX0_isMarked, Cond.static yX0_isMarked, Cond.code yX0_isMarked cX0_isMarked 3 (some .boolean), Cond.methodLink RX0 101 yX0_isPlace, Cond.static yX0_isPlace]
def wsX3_areaByStrips_r2 : List Cond := [Cond.code yX0_isPlace cX0_isPlace 2 (some .boolean)]
def wsX3_areaByStrips : List Cond := .code yX3_areaByStrips cX3_areaByStrips 1 (some .int) :: ((wsX3_areaByStrips_r1 ++ wsX3_areaByStrips_r2) ++ wsX30 ++ wsX00 ++ (vx_atS RX3 60 "java/lang/IllegalStateException" ["java/lang/RuntimeException", "java/lang/Exception"]).filter goodWord)
def wsX3_netArea_r1 : List Cond := [Cond.fieldLink RX3 10 "TakeoffSheet" "drawing" "LTakeoffSheet$Drawing;", Cond.fieldLink RX3 30 "TakeoffSheet" "limit" "I", Cond.methodLink RX3 75 yX3_checkClosed, Cond.instanceMethod yX3_checkClosed, Cond.selects RX3 yX3_checkClosed yX3_checkClosed, Cond.initialized RX3, Cond.code yX3_checkClosed cX3_checkClosed 1 none, Cond.classLink RX3 56 "java/lang/IllegalStateException", Cond.initialized "java/lang/IllegalStateException", Cond.fieldLink RX3 53 "TakeoffSheet$Drawing" "closed" "Z", Cond.methodLink RX3 94 yX0_areaLeft, Cond.instanceMethod yX0_areaLeft, Cond.selects RX0 yX0_areaLeft yX0_areaLeft, Cond.initialized RX0, Cond.code yX0_areaLeft cX0_areaLeft 4 (some .int), Cond.fieldLink RX0 18 "TakeoffSheet$Drawing" "openings" "[I", Cond.methodLink RX0 84 Lib.Math.max.name, Cond.static Lib.Math.max.name, Cond.initialized "java/lang/Math", Cond.code Lib.Math.max.name Lib.Math.max.code 2 (some .int), Cond.methodLink RX0 93 yX0_areaByCorners, Cond.instanceMethod yX0_areaByCorners, Cond.selects RX0 yX0_areaByCorners yX0_areaByCorners, Cond.code yX0_areaByCorners cX0_areaByCorners 1 (some .int)]
def wsX3_netArea_r2 : List Cond := [Cond.fieldLink RX0 38 "TakeoffSheet$Drawing" "twiceArea" "I", Cond.methodLink RX0 87 Lib.Math.abs.name, Cond.static Lib.Math.abs.name, Cond.code Lib.Math.abs.name Lib.Math.abs.code 1 (some .int)]
def wsX3_netArea : List Cond := .code yX3_netArea cX3_netArea 1 (some .int) :: ((wsX3_netArea_r1 ++ wsX3_netArea_r2) ++ wsX30 ++ wsX00 ++ (vx_atS RX3 60 "java/lang/IllegalStateException" ["java/lang/RuntimeException", "java/lang/Exception"]).filter goodWord)
def wsJx4a65c_size_8abf5 : List Cond := .code yJx4a65c_size_8abf5 cJx4a65c_size_8abf5 1 (some .int) :: ([.fieldLink RJx4a65c 48 "java/util/ArrayList" "size" "I"] ++ wsJx4a65c0)
def wsJ3_checkIndex_8e157 : List Cond := .code yJ3_checkIndex_8e157 cJ3_checkIndex_8e157 3 (some .int) :: ([])
def wsJ15_checkIndex_7cf53 : List Cond := .code yJ15_checkIndex_7cf53 cJ15_checkIndex_7cf53 2 (some .int) :: ([.methodLink RJ15 105 yJ3_checkIndex_8e157, .static yJ3_checkIndex_8e157, .initialized RJ3, .code yJ3_checkIndex_8e157 cJ3_checkIndex_8e157 3 (some .int)])
def wsJx4a65c_elementData_915e3 : List Cond := .code yJx4a65c_elementData_915e3 cJx4a65c_elementData_915e3 2 (some (.object "java/lang/Object")) :: ([.fieldLink RJx4a65c 9 "java/util/ArrayList" "elementData" "[Ljava/lang/Object;"] ++ wsJx4a65c0)
def wsJx4a65c_get_915e3 : List Cond := .code yJx4a65c_get_915e3 cJx4a65c_get_915e3 2 (some (.object "java/lang/Object")) :: ([.fieldLink RJx4a65c 48 "java/util/ArrayList" "size" "I", .methodLink RJx4a65c 118 yJ15_checkIndex_7cf53, .static yJ15_checkIndex_7cf53, .initialized RJ15, .code yJ15_checkIndex_7cf53 cJ15_checkIndex_7cf53 2 (some .int), .methodLink RJ15 105 yJ3_checkIndex_8e157, .static yJ3_checkIndex_8e157, .initialized RJ3, .code yJ3_checkIndex_8e157 cJ3_checkIndex_8e157 3 (some .int), .methodLink RJx4a65c 123 yJx4a65c_elementData_915e3, .instanceMethod yJx4a65c_elementData_915e3, .selects RJx4a65c yJx4a65c_elementData_915e3 yJx4a65c_elementData_915e3, .initialized RJx4a65c, .code yJx4a65c_elementData_915e3 cJx4a65c_elementData_915e3 2 (some (.object "java/lang/Object")), .fieldLink RJx4a65c 9 "java/util/ArrayList" "elementData" "[Ljava/lang/Object;"] ++ wsJx4a65c0)
def wsJ8_hugeLength_7cf53 : List Cond := .code yJ8_hugeLength_7cf53 cJ8_hugeLength_7cf53 3 (some .int) :: ([.constant RJ8 200 (2147483639)])
def wsJ8_newLength_cabcc : List Cond := .code yJ8_newLength_cabcc cJ8_newLength_cabcc 4 (some .int) :: ([.methodLink RJ8 194 Lib.Math.max.name, .static Lib.Math.max.name, .initialized "java/lang/Math", .code Lib.Math.max.name Lib.Math.max.code 2 (some .int), .constant RJ8 200 (2147483639), .methodLink RJ8 201 yJ8_hugeLength_7cf53, .static yJ8_hugeLength_7cf53, .initialized RJ8, .code yJ8_hugeLength_7cf53 cJ8_hugeLength_7cf53 3 (some .int)])
def wsJ7_copyOf_6403c : List Cond := .code yJ7_copyOf_6403c cJ7_copyOf_6403c 4 (some (.array (.object "java/lang/Object"))) :: ([.classLink RJ7 110 "[Ljava/lang/Object;", .classLink RJ7 2 "java/lang/Object", .methodLink RJ7 304 Lib.Math.min.name, .static Lib.Math.min.name, .initialized "java/lang/Math", .code Lib.Math.min.name Lib.Math.min.code 2 (some .int), .methodLink RJ7 150 arraycopyName, .native arraycopyName, .static arraycopyName, .initialized "java/lang/System"])
def wsJ7_copyOf_1904c : List Cond := .code yJ7_copyOf_1904c cJ7_copyOf_1904c 2 (some (.array (.object "java/lang/Object"))) :: ([.methodLink RJ7 86 ⟨"java/lang/Object", "getClass", "()Ljava/lang/Class;"⟩, .selects "[Ljava/lang/Object;" ⟨"java/lang/Object", "getClass", "()Ljava/lang/Class;"⟩ ⟨"java/lang/Object", "getClass", "()Ljava/lang/Class;"⟩, .instanceMethod ⟨"java/lang/Object", "getClass", "()Ljava/lang/Class;"⟩, .native ⟨"java/lang/Object", "getClass", "()Ljava/lang/Class;"⟩, .methodLink RJ7 300 yJ7_copyOf_6403c, .static yJ7_copyOf_6403c, .initialized RJ7, .code yJ7_copyOf_6403c cJ7_copyOf_6403c 4 (some (.array (.object "java/lang/Object"))), .classLink RJ7 110 "[Ljava/lang/Object;", .classLink RJ7 2 "java/lang/Object", .methodLink RJ7 304 Lib.Math.min.name, .static Lib.Math.min.name, .initialized "java/lang/Math", .code Lib.Math.min.name Lib.Math.min.code 2 (some .int), .methodLink RJ7 150 arraycopyName, .native arraycopyName, .static arraycopyName, .initialized "java/lang/System"])
def wsJx4a65c_grow_92f84_r1 : List Cond := [Cond.fieldLink RJx4a65c 9 "java/util/ArrayList" "elementData" "[Ljava/lang/Object;", Cond.fieldLink RJx4a65c 39 "java/util/ArrayList" "DEFAULTCAPACITY_EMPTY_ELEMENTDATA" "[Ljava/lang/Object;", Cond.methodLink RJx4a65c 79 Lib.Math.max.name, Cond.static Lib.Math.max.name, Cond.initialized "java/lang/Math", Cond.code Lib.Math.max.name Lib.Math.max.code 2 (some .int), Cond.classLink RJx4a65c 7 "java/lang/Object", Cond.methodLink RJx4a65c 73 yJ8_newLength_cabcc, Cond.static yJ8_newLength_cabcc, Cond.initialized RJ8, Cond.code yJ8_newLength_cabcc cJ8_newLength_cabcc 4 (some .int), Cond.methodLink RJ8 194 Lib.Math.max.name, Cond.constant RJ8 200 (2147483639), Cond.methodLink RJ8 201 yJ8_hugeLength_7cf53, Cond.static yJ8_hugeLength_7cf53, Cond.code yJ8_hugeLength_7cf53 cJ8_hugeLength_7cf53 3 (some .int), Cond.methodLink RJx4a65c 66 yJ7_copyOf_1904c, Cond.static yJ7_copyOf_1904c, Cond.initialized RJ7, Cond.code yJ7_copyOf_1904c cJ7_copyOf_1904c 2 (some (.array (.object "java/lang/Object"))), Cond.methodLink RJ7 86 ⟨"java/lang/Object", "getClass", "()Ljava/lang/Class;"⟩, Cond.selects "[Ljava/lang/Object;" ⟨"java/lang/Object", "getClass", "()Ljava/lang/Class;"⟩ ⟨"java/lang/Object", "getClass", "()Ljava/lang/Class;"⟩, Cond.instanceMethod ⟨"java/lang/Object", "getClass", "()Ljava/lang/Class;"⟩, Cond.native ⟨"java/lang/Object", "getClass", "()Ljava/lang/Class;"⟩]
def wsJx4a65c_grow_92f84_r2 : List Cond := [Cond.methodLink RJ7 300 yJ7_copyOf_6403c, Cond.static yJ7_copyOf_6403c, Cond.code yJ7_copyOf_6403c cJ7_copyOf_6403c 4 (some (.array (.object "java/lang/Object"))), Cond.classLink RJ7 110 "[Ljava/lang/Object;", Cond.classLink RJ7 2 "java/lang/Object", Cond.methodLink RJ7 304 Lib.Math.min.name, Cond.static Lib.Math.min.name, Cond.code Lib.Math.min.name Lib.Math.min.code 2 (some .int), Cond.methodLink RJ7 150 arraycopyName, Cond.native arraycopyName, Cond.static arraycopyName, Cond.initialized "java/lang/System"]
def wsJx4a65c_grow_92f84 : List Cond := .code yJx4a65c_grow_92f84 cJx4a65c_grow_92f84 4 (some (.array (.object "java/lang/Object"))) :: ((wsJx4a65c_grow_92f84_r1 ++ wsJx4a65c_grow_92f84_r2) ++ wsJx4a65c0)
def wsJx4a65c_grow_d5877_r1 : List Cond := [Cond.fieldLink RJx4a65c 48 "java/util/ArrayList" "size" "I", Cond.methodLink RJx4a65c 69 yJx4a65c_grow_92f84, Cond.instanceMethod yJx4a65c_grow_92f84, Cond.selects RJx4a65c yJx4a65c_grow_92f84 yJx4a65c_grow_92f84, Cond.initialized RJx4a65c, Cond.code yJx4a65c_grow_92f84 cJx4a65c_grow_92f84 4 (some (.array (.object "java/lang/Object"))), Cond.fieldLink RJx4a65c 9 "java/util/ArrayList" "elementData" "[Ljava/lang/Object;", Cond.fieldLink RJx4a65c 39 "java/util/ArrayList" "DEFAULTCAPACITY_EMPTY_ELEMENTDATA" "[Ljava/lang/Object;", Cond.methodLink RJx4a65c 79 Lib.Math.max.name, Cond.static Lib.Math.max.name, Cond.initialized "java/lang/Math", Cond.code Lib.Math.max.name Lib.Math.max.code 2 (some .int), Cond.classLink RJx4a65c 7 "java/lang/Object", Cond.methodLink RJx4a65c 73 yJ8_newLength_cabcc, Cond.static yJ8_newLength_cabcc, Cond.initialized RJ8, Cond.code yJ8_newLength_cabcc cJ8_newLength_cabcc 4 (some .int), Cond.methodLink RJ8 194 Lib.Math.max.name, Cond.constant RJ8 200 (2147483639), Cond.methodLink RJ8 201 yJ8_hugeLength_7cf53, Cond.static yJ8_hugeLength_7cf53, Cond.code yJ8_hugeLength_7cf53 cJ8_hugeLength_7cf53 3 (some .int), Cond.methodLink RJx4a65c 66 yJ7_copyOf_1904c, Cond.static yJ7_copyOf_1904c]
def wsJx4a65c_grow_d5877_r2 : List Cond := [Cond.initialized RJ7, Cond.code yJ7_copyOf_1904c cJ7_copyOf_1904c 2 (some (.array (.object "java/lang/Object"))), Cond.methodLink RJ7 86 ⟨"java/lang/Object", "getClass", "()Ljava/lang/Class;"⟩, Cond.selects "[Ljava/lang/Object;" ⟨"java/lang/Object", "getClass", "()Ljava/lang/Class;"⟩ ⟨"java/lang/Object", "getClass", "()Ljava/lang/Class;"⟩, Cond.instanceMethod ⟨"java/lang/Object", "getClass", "()Ljava/lang/Class;"⟩, Cond.native ⟨"java/lang/Object", "getClass", "()Ljava/lang/Class;"⟩, Cond.methodLink RJ7 300 yJ7_copyOf_6403c, Cond.static yJ7_copyOf_6403c, Cond.code yJ7_copyOf_6403c cJ7_copyOf_6403c 4 (some (.array (.object "java/lang/Object"))), Cond.classLink RJ7 110 "[Ljava/lang/Object;", Cond.classLink RJ7 2 "java/lang/Object", Cond.methodLink RJ7 304 Lib.Math.min.name, Cond.static Lib.Math.min.name, Cond.code Lib.Math.min.name Lib.Math.min.code 2 (some .int), Cond.methodLink RJ7 150 arraycopyName, Cond.native arraycopyName, Cond.static arraycopyName, Cond.initialized "java/lang/System"]
def wsJx4a65c_grow_d5877 : List Cond := .code yJx4a65c_grow_d5877 cJx4a65c_grow_d5877 1 (some (.array (.object "java/lang/Object"))) :: ((wsJx4a65c_grow_d5877_r1 ++ wsJx4a65c_grow_d5877_r2) ++ wsJx4a65c0)
def wsJx4a65c_add_72be8_r1 : List Cond := [Cond.fieldLink RJx4a65c 48 "java/util/ArrayList" "size" "I", Cond.methodLink RJx4a65c 129 yJx4a65c_grow_d5877, Cond.instanceMethod yJx4a65c_grow_d5877, Cond.selects RJx4a65c yJx4a65c_grow_d5877 yJx4a65c_grow_d5877, Cond.initialized RJx4a65c, Cond.code yJx4a65c_grow_d5877 cJx4a65c_grow_d5877 1 (some (.array (.object "java/lang/Object"))), Cond.methodLink RJx4a65c 69 yJx4a65c_grow_92f84, Cond.instanceMethod yJx4a65c_grow_92f84, Cond.selects RJx4a65c yJx4a65c_grow_92f84 yJx4a65c_grow_92f84, Cond.code yJx4a65c_grow_92f84 cJx4a65c_grow_92f84 4 (some (.array (.object "java/lang/Object"))), Cond.fieldLink RJx4a65c 9 "java/util/ArrayList" "elementData" "[Ljava/lang/Object;", Cond.fieldLink RJx4a65c 39 "java/util/ArrayList" "DEFAULTCAPACITY_EMPTY_ELEMENTDATA" "[Ljava/lang/Object;", Cond.methodLink RJx4a65c 79 Lib.Math.max.name, Cond.static Lib.Math.max.name, Cond.initialized "java/lang/Math", Cond.code Lib.Math.max.name Lib.Math.max.code 2 (some .int), Cond.classLink RJx4a65c 7 "java/lang/Object", Cond.methodLink RJx4a65c 73 yJ8_newLength_cabcc, Cond.static yJ8_newLength_cabcc, Cond.initialized RJ8, Cond.code yJ8_newLength_cabcc cJ8_newLength_cabcc 4 (some .int), Cond.methodLink RJ8 194 Lib.Math.max.name, Cond.constant RJ8 200 (2147483639), Cond.methodLink RJ8 201 yJ8_hugeLength_7cf53]
def wsJx4a65c_add_72be8_r2 : List Cond := [Cond.static yJ8_hugeLength_7cf53, Cond.code yJ8_hugeLength_7cf53 cJ8_hugeLength_7cf53 3 (some .int), Cond.methodLink RJx4a65c 66 yJ7_copyOf_1904c, Cond.static yJ7_copyOf_1904c, Cond.initialized RJ7, Cond.code yJ7_copyOf_1904c cJ7_copyOf_1904c 2 (some (.array (.object "java/lang/Object"))), Cond.methodLink RJ7 86 ⟨"java/lang/Object", "getClass", "()Ljava/lang/Class;"⟩, Cond.selects "[Ljava/lang/Object;" ⟨"java/lang/Object", "getClass", "()Ljava/lang/Class;"⟩ ⟨"java/lang/Object", "getClass", "()Ljava/lang/Class;"⟩, Cond.instanceMethod ⟨"java/lang/Object", "getClass", "()Ljava/lang/Class;"⟩, Cond.native ⟨"java/lang/Object", "getClass", "()Ljava/lang/Class;"⟩, Cond.methodLink RJ7 300 yJ7_copyOf_6403c, Cond.static yJ7_copyOf_6403c, Cond.code yJ7_copyOf_6403c cJ7_copyOf_6403c 4 (some (.array (.object "java/lang/Object"))), Cond.classLink RJ7 110 "[Ljava/lang/Object;", Cond.classLink RJ7 2 "java/lang/Object", Cond.methodLink RJ7 304 Lib.Math.min.name, Cond.static Lib.Math.min.name, Cond.code Lib.Math.min.name Lib.Math.min.code 2 (some .int), Cond.methodLink RJ7 150 arraycopyName, Cond.native arraycopyName, Cond.static arraycopyName, Cond.initialized "java/lang/System"]
def wsJx4a65c_add_72be8 : List Cond := .code yJx4a65c_add_72be8 cJx4a65c_add_72be8 4 none :: ((wsJx4a65c_add_72be8_r1 ++ wsJx4a65c_add_72be8_r2) ++ wsJx4a65c0)
def wsJx4a65c_add_9ea2d_r1 : List Cond := [Cond.fieldLink RJx4a65c 63 "java/util/ArrayList" "modCount" "I", Cond.sameField "java/util/ArrayList" "java/util/AbstractList" "modCount" "I", Cond.fieldLink RJx4a65c 9 "java/util/ArrayList" "elementData" "[Ljava/lang/Object;", Cond.fieldLink RJx4a65c 48 "java/util/ArrayList" "size" "I", Cond.methodLink RJx4a65c 131 yJx4a65c_add_72be8, Cond.instanceMethod yJx4a65c_add_72be8, Cond.selects RJx4a65c yJx4a65c_add_72be8 yJx4a65c_add_72be8, Cond.initialized RJx4a65c, Cond.code yJx4a65c_add_72be8 cJx4a65c_add_72be8 4 none, Cond.methodLink RJx4a65c 129 yJx4a65c_grow_d5877, Cond.instanceMethod yJx4a65c_grow_d5877, Cond.selects RJx4a65c yJx4a65c_grow_d5877 yJx4a65c_grow_d5877, Cond.code yJx4a65c_grow_d5877 cJx4a65c_grow_d5877 1 (some (.array (.object "java/lang/Object"))), Cond.methodLink RJx4a65c 69 yJx4a65c_grow_92f84, Cond.instanceMethod yJx4a65c_grow_92f84, Cond.selects RJx4a65c yJx4a65c_grow_92f84 yJx4a65c_grow_92f84, Cond.code yJx4a65c_grow_92f84 cJx4a65c_grow_92f84 4 (some (.array (.object "java/lang/Object"))), Cond.fieldLink RJx4a65c 39 "java/util/ArrayList" "DEFAULTCAPACITY_EMPTY_ELEMENTDATA" "[Ljava/lang/Object;", Cond.methodLink RJx4a65c 79 Lib.Math.max.name, Cond.static Lib.Math.max.name, Cond.initialized "java/lang/Math", Cond.code Lib.Math.max.name Lib.Math.max.code 2 (some .int), Cond.classLink RJx4a65c 7 "java/lang/Object", Cond.methodLink RJx4a65c 73 yJ8_newLength_cabcc]
def wsJx4a65c_add_9ea2d_r2 : List Cond := [Cond.static yJ8_newLength_cabcc, Cond.initialized RJ8, Cond.code yJ8_newLength_cabcc cJ8_newLength_cabcc 4 (some .int), Cond.methodLink RJ8 194 Lib.Math.max.name, Cond.constant RJ8 200 (2147483639), Cond.methodLink RJ8 201 yJ8_hugeLength_7cf53, Cond.static yJ8_hugeLength_7cf53, Cond.code yJ8_hugeLength_7cf53 cJ8_hugeLength_7cf53 3 (some .int), Cond.methodLink RJx4a65c 66 yJ7_copyOf_1904c, Cond.static yJ7_copyOf_1904c, Cond.initialized RJ7, Cond.code yJ7_copyOf_1904c cJ7_copyOf_1904c 2 (some (.array (.object "java/lang/Object"))), Cond.methodLink RJ7 86 ⟨"java/lang/Object", "getClass", "()Ljava/lang/Class;"⟩, Cond.selects "[Ljava/lang/Object;" ⟨"java/lang/Object", "getClass", "()Ljava/lang/Class;"⟩ ⟨"java/lang/Object", "getClass", "()Ljava/lang/Class;"⟩, Cond.instanceMethod ⟨"java/lang/Object", "getClass", "()Ljava/lang/Class;"⟩, Cond.native ⟨"java/lang/Object", "getClass", "()Ljava/lang/Class;"⟩, Cond.methodLink RJ7 300 yJ7_copyOf_6403c, Cond.static yJ7_copyOf_6403c, Cond.code yJ7_copyOf_6403c cJ7_copyOf_6403c 4 (some (.array (.object "java/lang/Object"))), Cond.classLink RJ7 110 "[Ljava/lang/Object;", Cond.classLink RJ7 2 "java/lang/Object", Cond.methodLink RJ7 304 Lib.Math.min.name, Cond.static Lib.Math.min.name, Cond.code Lib.Math.min.name Lib.Math.min.code 2 (some .int)]
def wsJx4a65c_add_9ea2d_r3 : List Cond := [Cond.methodLink RJ7 150 arraycopyName, Cond.native arraycopyName, Cond.static arraycopyName, Cond.initialized "java/lang/System"]
def wsJx4a65c_add_9ea2d : List Cond := .code yJx4a65c_add_9ea2d cJx4a65c_add_9ea2d 2 (some .boolean) :: ((wsJx4a65c_add_9ea2d_r1 ++ (wsJx4a65c_add_9ea2d_r2 ++ wsJx4a65c_add_9ea2d_r3)) ++ wsJx4a65c0)
def wsX3_rate_r1 : List Cond := [Cond.classLink RX3 56 "java/lang/IllegalStateException", Cond.initialized "java/lang/IllegalStateException", Cond.fieldLink RX3 19 "TakeoffSheet" "rates" "Ljava/util/ArrayList;", Cond.classLink RX3 105 "TakeoffSheet$Rate", Cond.classLink RX3 105 RX2, Cond.instantiable RX2 3, Cond.initialized RX2, Cond.methodLink RX3 41 yX3_checkRange, Cond.static yX3_checkRange, Cond.initialized RX3, Cond.code yX3_checkRange cX3_checkRange 3 none, Cond.classLink RX3 190 "java/lang/IllegalArgumentException", Cond.initialized "java/lang/IllegalArgumentException", Cond.methodLink RX3 98 yJx4a65c_size_8abf5, Cond.instanceMethod yJx4a65c_size_8abf5, Cond.selects RJx4a65c yJx4a65c_size_8abf5 yJx4a65c_size_8abf5, Cond.initialized RJx4a65c, Cond.code yJx4a65c_size_8abf5 cJx4a65c_size_8abf5 1 (some .int), Cond.fieldLink RJx4a65c 48 "java/util/ArrayList" "size" "I", Cond.methodLink RX3 101 yJx4a65c_get_915e3, Cond.instanceMethod yJx4a65c_get_915e3, Cond.selects RJx4a65c yJx4a65c_get_915e3 yJx4a65c_get_915e3, Cond.code yJx4a65c_get_915e3 cJx4a65c_get_915e3 2 (some (.object "java/lang/Object")), Cond.methodLink RJx4a65c 118 yJ15_checkIndex_7cf53]
def wsX3_rate_r2 : List Cond := [Cond.static yJ15_checkIndex_7cf53, Cond.initialized RJ15, Cond.code yJ15_checkIndex_7cf53 cJ15_checkIndex_7cf53 2 (some .int), Cond.methodLink RJ15 105 yJ3_checkIndex_8e157, Cond.static yJ3_checkIndex_8e157, Cond.initialized RJ3, Cond.code yJ3_checkIndex_8e157 cJ3_checkIndex_8e157 3 (some .int), Cond.methodLink RJx4a65c 123 yJx4a65c_elementData_915e3, Cond.instanceMethod yJx4a65c_elementData_915e3, Cond.selects RJx4a65c yJx4a65c_elementData_915e3 yJx4a65c_elementData_915e3, Cond.code yJx4a65c_elementData_915e3 cJx4a65c_elementData_915e3 2 (some (.object "java/lang/Object")), Cond.fieldLink RJx4a65c 9 "java/util/ArrayList" "elementData" "[Ljava/lang/Object;", Cond.methodLink RX3 107 yX2_isOf, Cond.instanceMethod yX2_isOf, Cond.selects RX2 yX2_isOf yX2_isOf, Cond.code yX2_isOf cX2_isOf 4 (some .boolean), Cond.fieldLink RX2 7 "TakeoffSheet$Rate" "labour" "I", Cond.fieldLink RX2 13 "TakeoffSheet$Rate" "plant" "I", Cond.fieldLink RX2 16 "TakeoffSheet$Rate" "material" "I", Cond.methodLink RX3 113 yX2_init, Cond.instanceMethod yX2_init, Cond.code yX2_init cX2_init 4 none, Cond.methodLink RX2 1 objectInit, Cond.instanceMethod objectInit]
def wsX3_rate_r3 : List Cond := [Cond.code objectInit ⟨#[0xb1]⟩ 1 none, Cond.methodLink RX3 115 yJx4a65c_add_9ea2d, Cond.instanceMethod yJx4a65c_add_9ea2d, Cond.selects RJx4a65c yJx4a65c_add_9ea2d yJx4a65c_add_9ea2d, Cond.code yJx4a65c_add_9ea2d cJx4a65c_add_9ea2d 2 (some .boolean), Cond.fieldLink RJx4a65c 63 "java/util/ArrayList" "modCount" "I", Cond.sameField "java/util/ArrayList" "java/util/AbstractList" "modCount" "I", Cond.methodLink RJx4a65c 131 yJx4a65c_add_72be8, Cond.instanceMethod yJx4a65c_add_72be8, Cond.selects RJx4a65c yJx4a65c_add_72be8 yJx4a65c_add_72be8, Cond.code yJx4a65c_add_72be8 cJx4a65c_add_72be8 4 none, Cond.methodLink RJx4a65c 129 yJx4a65c_grow_d5877, Cond.instanceMethod yJx4a65c_grow_d5877, Cond.selects RJx4a65c yJx4a65c_grow_d5877 yJx4a65c_grow_d5877, Cond.code yJx4a65c_grow_d5877 cJx4a65c_grow_d5877 1 (some (.array (.object "java/lang/Object"))), Cond.methodLink RJx4a65c 69 yJx4a65c_grow_92f84, Cond.instanceMethod yJx4a65c_grow_92f84, Cond.selects RJx4a65c yJx4a65c_grow_92f84 yJx4a65c_grow_92f84, Cond.code yJx4a65c_grow_92f84 cJx4a65c_grow_92f84 4 (some (.array (.object "java/lang/Object"))), Cond.fieldLink RJx4a65c 39 "java/util/ArrayList" "DEFAULTCAPACITY_EMPTY_ELEMENTDATA" "[Ljava/lang/Object;", Cond.methodLink RJx4a65c 79 Lib.Math.max.name, Cond.static Lib.Math.max.name, Cond.initialized "java/lang/Math", Cond.code Lib.Math.max.name Lib.Math.max.code 2 (some .int)]
def wsX3_rate_r4 : List Cond := [Cond.classLink RJx4a65c 7 "java/lang/Object", Cond.methodLink RJx4a65c 73 yJ8_newLength_cabcc, Cond.static yJ8_newLength_cabcc, Cond.initialized RJ8, Cond.code yJ8_newLength_cabcc cJ8_newLength_cabcc 4 (some .int), Cond.methodLink RJ8 194 Lib.Math.max.name, Cond.constant RJ8 200 (2147483639), Cond.methodLink RJ8 201 yJ8_hugeLength_7cf53, Cond.static yJ8_hugeLength_7cf53, Cond.code yJ8_hugeLength_7cf53 cJ8_hugeLength_7cf53 3 (some .int), Cond.methodLink RJx4a65c 66 yJ7_copyOf_1904c, Cond.static yJ7_copyOf_1904c, Cond.initialized RJ7, Cond.code yJ7_copyOf_1904c cJ7_copyOf_1904c 2 (some (.array (.object "java/lang/Object"))), Cond.methodLink RJ7 86 ⟨"java/lang/Object", "getClass", "()Ljava/lang/Class;"⟩, Cond.selects "[Ljava/lang/Object;" ⟨"java/lang/Object", "getClass", "()Ljava/lang/Class;"⟩ ⟨"java/lang/Object", "getClass", "()Ljava/lang/Class;"⟩, Cond.instanceMethod ⟨"java/lang/Object", "getClass", "()Ljava/lang/Class;"⟩, Cond.native ⟨"java/lang/Object", "getClass", "()Ljava/lang/Class;"⟩, Cond.methodLink RJ7 300 yJ7_copyOf_6403c, Cond.static yJ7_copyOf_6403c, Cond.code yJ7_copyOf_6403c cJ7_copyOf_6403c 4 (some (.array (.object "java/lang/Object"))), Cond.classLink RJ7 110 "[Ljava/lang/Object;", Cond.classLink RJ7 2 "java/lang/Object", Cond.methodLink RJ7 304 Lib.Math.min.name]
def wsX3_rate_r5 : List Cond := [Cond.static Lib.Math.min.name, Cond.code Lib.Math.min.name Lib.Math.min.code 2 (some .int), Cond.methodLink RJ7 150 arraycopyName, Cond.native arraycopyName, Cond.static arraycopyName, Cond.initialized "java/lang/System"]
def wsX3_rate : List Cond := .code yX3_rate cX3_rate 5 (some .int) :: ((wsX3_rate_r1 ++ (wsX3_rate_r2 ++ (wsX3_rate_r3 ++ (wsX3_rate_r4 ++ wsX3_rate_r5)))) ++ wsX30 ++ wsX20 ++ wsJx4a65c0 ++ (vx_atS RX3 60 "java/lang/IllegalStateException" ["java/lang/RuntimeException", "java/lang/Exception"]).filter goodWord ++ (vx_atS RX3 194 "java/lang/IllegalArgumentException" ["java/lang/RuntimeException", "java/lang/Exception"]).filter goodWord)
def wsX3_price : List Cond := .code yX3_price cX3_price 4 (some .int) :: ([.fieldLink RX3 26 "TakeoffSheet" "prices" "[I", .methodLink RX3 41 yX3_checkRange, .static yX3_checkRange, .initialized RX3, .code yX3_checkRange cX3_checkRange 3 none, .classLink RX3 190 "java/lang/IllegalArgumentException", .initialized "java/lang/IllegalArgumentException"] ++ wsX30 ++ (vx_atS RX3 194 "java/lang/IllegalArgumentException" ["java/lang/RuntimeException", "java/lang/Exception"]).filter goodWord)
def wsX3_rateAt_r1 : List Cond := [Cond.classLink RX3 67 "java/lang/IndexOutOfBoundsException", Cond.initialized "java/lang/IndexOutOfBoundsException", Cond.fieldLink RX3 19 "TakeoffSheet" "rates" "Ljava/util/ArrayList;", Cond.classLink RX3 105 "TakeoffSheet$Rate", Cond.methodLink RX3 98 yJx4a65c_size_8abf5, Cond.instanceMethod yJx4a65c_size_8abf5, Cond.selects RJx4a65c yJx4a65c_size_8abf5 yJx4a65c_size_8abf5, Cond.initialized RJx4a65c, Cond.code yJx4a65c_size_8abf5 cJx4a65c_size_8abf5 1 (some .int), Cond.fieldLink RJx4a65c 48 "java/util/ArrayList" "size" "I", Cond.methodLink RX3 101 yJx4a65c_get_915e3, Cond.instanceMethod yJx4a65c_get_915e3, Cond.selects RJx4a65c yJx4a65c_get_915e3 yJx4a65c_get_915e3, Cond.code yJx4a65c_get_915e3 cJx4a65c_get_915e3 2 (some (.object "java/lang/Object")), Cond.methodLink RJx4a65c 118 yJ15_checkIndex_7cf53, Cond.static yJ15_checkIndex_7cf53, Cond.initialized RJ15, Cond.code yJ15_checkIndex_7cf53 cJ15_checkIndex_7cf53 2 (some .int), Cond.methodLink RJ15 105 yJ3_checkIndex_8e157, Cond.static yJ3_checkIndex_8e157, Cond.initialized RJ3, Cond.code yJ3_checkIndex_8e157 cJ3_checkIndex_8e157 3 (some .int), Cond.methodLink RJx4a65c 123 yJx4a65c_elementData_915e3, Cond.instanceMethod yJx4a65c_elementData_915e3]
def wsX3_rateAt_r2 : List Cond := [Cond.selects RJx4a65c yJx4a65c_elementData_915e3 yJx4a65c_elementData_915e3, Cond.code yJx4a65c_elementData_915e3 cJx4a65c_elementData_915e3 2 (some (.object "java/lang/Object")), Cond.fieldLink RJx4a65c 9 "java/util/ArrayList" "elementData" "[Ljava/lang/Object;"]
def wsX3_rateAt : List Cond := .code yX3_rateAt cX3_rateAt 2 (some (.object "TakeoffSheet$Rate")) :: ((wsX3_rateAt_r1 ++ wsX3_rateAt_r2) ++ wsX30 ++ wsJx4a65c0 ++ (vx_atS RX3 71 "java/lang/IndexOutOfBoundsException" ["java/lang/RuntimeException", "java/lang/Exception"]).filter goodWord)
def wsX3_priceOf : List Cond := .code yX3_priceOf cX3_priceOf 2 (some .int) :: ([.fieldLink RX3 210 "TakeoffSheet$Rate" "labour" "I", .fieldLink RX3 26 "TakeoffSheet" "prices" "[I", .fieldLink RX3 213 "TakeoffSheet$Rate" "plant" "I", .fieldLink RX3 216 "TakeoffSheet$Rate" "material" "I"] ++ wsX20 ++ wsX30)
def wsX3_rateOf_r1 : List Cond := [Cond.methodLink RX3 119 yX3_rateAt, Cond.instanceMethod yX3_rateAt, Cond.selects RX3 yX3_rateAt yX3_rateAt, Cond.initialized RX3, Cond.code yX3_rateAt cX3_rateAt 2 (some (.object "TakeoffSheet$Rate")), Cond.classLink RX3 67 "java/lang/IndexOutOfBoundsException", Cond.initialized "java/lang/IndexOutOfBoundsException", Cond.fieldLink RX3 19 "TakeoffSheet" "rates" "Ljava/util/ArrayList;", Cond.classLink RX3 105 "TakeoffSheet$Rate", Cond.methodLink RX3 98 yJx4a65c_size_8abf5, Cond.instanceMethod yJx4a65c_size_8abf5, Cond.selects RJx4a65c yJx4a65c_size_8abf5 yJx4a65c_size_8abf5, Cond.initialized RJx4a65c, Cond.code yJx4a65c_size_8abf5 cJx4a65c_size_8abf5 1 (some .int), Cond.fieldLink RJx4a65c 48 "java/util/ArrayList" "size" "I", Cond.methodLink RX3 101 yJx4a65c_get_915e3, Cond.instanceMethod yJx4a65c_get_915e3, Cond.selects RJx4a65c yJx4a65c_get_915e3 yJx4a65c_get_915e3, Cond.code yJx4a65c_get_915e3 cJx4a65c_get_915e3 2 (some (.object "java/lang/Object")), Cond.methodLink RJx4a65c 118 yJ15_checkIndex_7cf53, Cond.static yJ15_checkIndex_7cf53, Cond.initialized RJ15, Cond.code yJ15_checkIndex_7cf53 cJ15_checkIndex_7cf53 2 (some .int), Cond.methodLink RJ15 105 yJ3_checkIndex_8e157]
def wsX3_rateOf_r2 : List Cond := [Cond.static yJ3_checkIndex_8e157, Cond.initialized RJ3, Cond.code yJ3_checkIndex_8e157 cJ3_checkIndex_8e157 3 (some .int), Cond.methodLink RJx4a65c 123 yJx4a65c_elementData_915e3, Cond.instanceMethod yJx4a65c_elementData_915e3, Cond.selects RJx4a65c yJx4a65c_elementData_915e3 yJx4a65c_elementData_915e3, Cond.code yJx4a65c_elementData_915e3 cJx4a65c_elementData_915e3 2 (some (.object "java/lang/Object")), Cond.fieldLink RJx4a65c 9 "java/util/ArrayList" "elementData" "[Ljava/lang/Object;", Cond.methodLink RX3 123 yX3_priceOf, Cond.instanceMethod yX3_priceOf, Cond.selects RX3 yX3_priceOf yX3_priceOf, Cond.code yX3_priceOf cX3_priceOf 2 (some .int), Cond.fieldLink RX3 210 "TakeoffSheet$Rate" "labour" "I", Cond.fieldLink RX3 26 "TakeoffSheet" "prices" "[I", Cond.fieldLink RX3 213 "TakeoffSheet$Rate" "plant" "I", Cond.fieldLink RX3 216 "TakeoffSheet$Rate" "material" "I"]
def wsX3_rateOf : List Cond := .code yX3_rateOf cX3_rateOf 2 (some .int) :: ((wsX3_rateOf_r1 ++ wsX3_rateOf_r2) ++ wsX30 ++ wsJx4a65c0 ++ wsX20 ++ (vx_atS RX3 71 "java/lang/IndexOutOfBoundsException" ["java/lang/RuntimeException", "java/lang/Exception"]).filter goodWord)
def wsX3_itemAt_r1 : List Cond := [Cond.classLink RX3 67 "java/lang/IndexOutOfBoundsException", Cond.initialized "java/lang/IndexOutOfBoundsException", Cond.fieldLink RX3 23 "TakeoffSheet" "items" "Ljava/util/ArrayList;", Cond.classLink RX3 143 "TakeoffSheet$Item", Cond.methodLink RX3 98 yJx4a65c_size_8abf5, Cond.instanceMethod yJx4a65c_size_8abf5, Cond.selects RJx4a65c yJx4a65c_size_8abf5 yJx4a65c_size_8abf5, Cond.initialized RJx4a65c, Cond.code yJx4a65c_size_8abf5 cJx4a65c_size_8abf5 1 (some .int), Cond.fieldLink RJx4a65c 48 "java/util/ArrayList" "size" "I", Cond.methodLink RX3 101 yJx4a65c_get_915e3, Cond.instanceMethod yJx4a65c_get_915e3, Cond.selects RJx4a65c yJx4a65c_get_915e3 yJx4a65c_get_915e3, Cond.code yJx4a65c_get_915e3 cJx4a65c_get_915e3 2 (some (.object "java/lang/Object")), Cond.methodLink RJx4a65c 118 yJ15_checkIndex_7cf53, Cond.static yJ15_checkIndex_7cf53, Cond.initialized RJ15, Cond.code yJ15_checkIndex_7cf53 cJ15_checkIndex_7cf53 2 (some .int), Cond.methodLink RJ15 105 yJ3_checkIndex_8e157, Cond.static yJ3_checkIndex_8e157, Cond.initialized RJ3, Cond.code yJ3_checkIndex_8e157 cJ3_checkIndex_8e157 3 (some .int), Cond.methodLink RJx4a65c 123 yJx4a65c_elementData_915e3, Cond.instanceMethod yJx4a65c_elementData_915e3]
def wsX3_itemAt_r2 : List Cond := [Cond.selects RJx4a65c yJx4a65c_elementData_915e3 yJx4a65c_elementData_915e3, Cond.code yJx4a65c_elementData_915e3 cJx4a65c_elementData_915e3 2 (some (.object "java/lang/Object")), Cond.fieldLink RJx4a65c 9 "java/util/ArrayList" "elementData" "[Ljava/lang/Object;"]
def wsX3_itemAt : List Cond := .code yX3_itemAt cX3_itemAt 2 (some (.object "TakeoffSheet$Item")) :: ((wsX3_itemAt_r1 ++ wsX3_itemAt_r2) ++ wsX30 ++ wsJx4a65c0 ++ (vx_atS RX3 71 "java/lang/IndexOutOfBoundsException" ["java/lang/RuntimeException", "java/lang/Exception"]).filter goodWord)
def wsX3_parentAt_r1 : List Cond := [Cond.methodLink RX3 135 yX3_itemAt, Cond.instanceMethod yX3_itemAt, Cond.selects RX3 yX3_itemAt yX3_itemAt, Cond.initialized RX3, Cond.code yX3_itemAt cX3_itemAt 2 (some (.object "TakeoffSheet$Item")), Cond.classLink RX3 67 "java/lang/IndexOutOfBoundsException", Cond.initialized "java/lang/IndexOutOfBoundsException", Cond.fieldLink RX3 23 "TakeoffSheet" "items" "Ljava/util/ArrayList;", Cond.classLink RX3 143 "TakeoffSheet$Item", Cond.methodLink RX3 98 yJx4a65c_size_8abf5, Cond.instanceMethod yJx4a65c_size_8abf5, Cond.selects RJx4a65c yJx4a65c_size_8abf5 yJx4a65c_size_8abf5, Cond.initialized RJx4a65c, Cond.code yJx4a65c_size_8abf5 cJx4a65c_size_8abf5 1 (some .int), Cond.fieldLink RJx4a65c 48 "java/util/ArrayList" "size" "I", Cond.methodLink RX3 101 yJx4a65c_get_915e3, Cond.instanceMethod yJx4a65c_get_915e3, Cond.selects RJx4a65c yJx4a65c_get_915e3 yJx4a65c_get_915e3, Cond.code yJx4a65c_get_915e3 cJx4a65c_get_915e3 2 (some (.object "java/lang/Object")), Cond.methodLink RJx4a65c 118 yJ15_checkIndex_7cf53, Cond.static yJ15_checkIndex_7cf53, Cond.initialized RJ15, Cond.code yJ15_checkIndex_7cf53 cJ15_checkIndex_7cf53 2 (some .int), Cond.methodLink RJ15 105 yJ3_checkIndex_8e157]
def wsX3_parentAt_r2 : List Cond := [Cond.static yJ3_checkIndex_8e157, Cond.initialized RJ3, Cond.code yJ3_checkIndex_8e157 cJ3_checkIndex_8e157 3 (some .int), Cond.methodLink RJx4a65c 123 yJx4a65c_elementData_915e3, Cond.instanceMethod yJx4a65c_elementData_915e3, Cond.selects RJx4a65c yJx4a65c_elementData_915e3 yJx4a65c_elementData_915e3, Cond.code yJx4a65c_elementData_915e3 cJx4a65c_elementData_915e3 2 (some (.object "java/lang/Object")), Cond.fieldLink RJx4a65c 9 "java/util/ArrayList" "elementData" "[Ljava/lang/Object;"]
def wsX3_parentAt : List Cond := .code yX3_parentAt cX3_parentAt 2 (some (.object "TakeoffSheet$Item")) :: ((wsX3_parentAt_r1 ++ wsX3_parentAt_r2) ++ wsX30 ++ wsJx4a65c0 ++ (vx_atS RX3 71 "java/lang/IndexOutOfBoundsException" ["java/lang/RuntimeException", "java/lang/Exception"]).filter goodWord)
def wsX3_addItem_r1 : List Cond := [Cond.classLink RX3 56 "java/lang/IllegalStateException", Cond.initialized "java/lang/IllegalStateException", Cond.fieldLink RX3 23 "TakeoffSheet" "items" "Ljava/util/ArrayList;", Cond.classLink RX3 143 RX1, Cond.instantiable RX1 6, Cond.initialized RX1, Cond.methodLink RX3 169 yX1_isLeaf, Cond.instanceMethod yX1_isLeaf, Cond.selects RX1 yX1_isLeaf yX1_isLeaf, Cond.code yX1_isLeaf cX1_isLeaf 1 (some .boolean), Cond.fieldLink RX1 15 "TakeoffSheet$Item" "rate" "LTakeoffSheet$Rate;", Cond.methodLink RX3 98 yJx4a65c_size_8abf5, Cond.instanceMethod yJx4a65c_size_8abf5, Cond.selects RJx4a65c yJx4a65c_size_8abf5 yJx4a65c_size_8abf5, Cond.initialized RJx4a65c, Cond.code yJx4a65c_size_8abf5 cJx4a65c_size_8abf5 1 (some .int), Cond.fieldLink RJx4a65c 48 "java/util/ArrayList" "size" "I", Cond.methodLink RX3 207 yX1_init, Cond.instanceMethod yX1_init, Cond.code yX1_init cX1_init 4 none, Cond.methodLink RX1 3 objectInit, Cond.instanceMethod objectInit, Cond.code objectInit ⟨#[0xb1]⟩ 1 none, Cond.fieldLink RX1 9 "TakeoffSheet$Item" "parent" "LTakeoffSheet$Item;"]
def wsX3_addItem_r2 : List Cond := [Cond.fieldLink RX1 19 "TakeoffSheet$Item" "waste" "I", Cond.methodLink RX3 115 yJx4a65c_add_9ea2d, Cond.instanceMethod yJx4a65c_add_9ea2d, Cond.selects RJx4a65c yJx4a65c_add_9ea2d yJx4a65c_add_9ea2d, Cond.code yJx4a65c_add_9ea2d cJx4a65c_add_9ea2d 2 (some .boolean), Cond.fieldLink RJx4a65c 63 "java/util/ArrayList" "modCount" "I", Cond.sameField "java/util/ArrayList" "java/util/AbstractList" "modCount" "I", Cond.fieldLink RJx4a65c 9 "java/util/ArrayList" "elementData" "[Ljava/lang/Object;", Cond.methodLink RJx4a65c 131 yJx4a65c_add_72be8, Cond.instanceMethod yJx4a65c_add_72be8, Cond.selects RJx4a65c yJx4a65c_add_72be8 yJx4a65c_add_72be8, Cond.code yJx4a65c_add_72be8 cJx4a65c_add_72be8 4 none, Cond.methodLink RJx4a65c 129 yJx4a65c_grow_d5877, Cond.instanceMethod yJx4a65c_grow_d5877, Cond.selects RJx4a65c yJx4a65c_grow_d5877 yJx4a65c_grow_d5877, Cond.code yJx4a65c_grow_d5877 cJx4a65c_grow_d5877 1 (some (.array (.object "java/lang/Object"))), Cond.methodLink RJx4a65c 69 yJx4a65c_grow_92f84, Cond.instanceMethod yJx4a65c_grow_92f84, Cond.selects RJx4a65c yJx4a65c_grow_92f84 yJx4a65c_grow_92f84, Cond.code yJx4a65c_grow_92f84 cJx4a65c_grow_92f84 4 (some (.array (.object "java/lang/Object"))), Cond.fieldLink RJx4a65c 39 "java/util/ArrayList" "DEFAULTCAPACITY_EMPTY_ELEMENTDATA" "[Ljava/lang/Object;", Cond.methodLink RJx4a65c 79 Lib.Math.max.name, Cond.static Lib.Math.max.name, Cond.initialized "java/lang/Math"]
def wsX3_addItem_r3 : List Cond := [Cond.code Lib.Math.max.name Lib.Math.max.code 2 (some .int), Cond.classLink RJx4a65c 7 "java/lang/Object", Cond.methodLink RJx4a65c 73 yJ8_newLength_cabcc, Cond.static yJ8_newLength_cabcc, Cond.initialized RJ8, Cond.code yJ8_newLength_cabcc cJ8_newLength_cabcc 4 (some .int), Cond.methodLink RJ8 194 Lib.Math.max.name, Cond.constant RJ8 200 (2147483639), Cond.methodLink RJ8 201 yJ8_hugeLength_7cf53, Cond.static yJ8_hugeLength_7cf53, Cond.code yJ8_hugeLength_7cf53 cJ8_hugeLength_7cf53 3 (some .int), Cond.methodLink RJx4a65c 66 yJ7_copyOf_1904c, Cond.static yJ7_copyOf_1904c, Cond.initialized RJ7, Cond.code yJ7_copyOf_1904c cJ7_copyOf_1904c 2 (some (.array (.object "java/lang/Object"))), Cond.methodLink RJ7 86 ⟨"java/lang/Object", "getClass", "()Ljava/lang/Class;"⟩, Cond.selects "[Ljava/lang/Object;" ⟨"java/lang/Object", "getClass", "()Ljava/lang/Class;"⟩ ⟨"java/lang/Object", "getClass", "()Ljava/lang/Class;"⟩, Cond.instanceMethod ⟨"java/lang/Object", "getClass", "()Ljava/lang/Class;"⟩, Cond.native ⟨"java/lang/Object", "getClass", "()Ljava/lang/Class;"⟩, Cond.methodLink RJ7 300 yJ7_copyOf_6403c, Cond.static yJ7_copyOf_6403c, Cond.code yJ7_copyOf_6403c cJ7_copyOf_6403c 4 (some (.array (.object "java/lang/Object"))), Cond.classLink RJ7 110 "[Ljava/lang/Object;", Cond.classLink RJ7 2 "java/lang/Object"]
def wsX3_addItem_r4 : List Cond := [Cond.methodLink RJ7 304 Lib.Math.min.name, Cond.static Lib.Math.min.name, Cond.code Lib.Math.min.name Lib.Math.min.code 2 (some .int), Cond.methodLink RJ7 150 arraycopyName, Cond.native arraycopyName, Cond.static arraycopyName, Cond.initialized "java/lang/System"]
def wsX3_addItem : List Cond := .code yX3_addItem cX3_addItem 4 (some .int) :: ((wsX3_addItem_r1 ++ (wsX3_addItem_r2 ++ (wsX3_addItem_r3 ++ wsX3_addItem_r4))) ++ wsX30 ++ wsX10 ++ wsJx4a65c0 ++ (vx_atS RX3 60 "java/lang/IllegalStateException" ["java/lang/RuntimeException", "java/lang/Exception"]).filter goodWord)
def wsX3_heading_r1 : List Cond := [Cond.methodLink RX3 127 yX3_parentAt, Cond.instanceMethod yX3_parentAt, Cond.selects RX3 yX3_parentAt yX3_parentAt, Cond.initialized RX3, Cond.code yX3_parentAt cX3_parentAt 2 (some (.object "TakeoffSheet$Item")), Cond.methodLink RX3 135 yX3_itemAt, Cond.instanceMethod yX3_itemAt, Cond.selects RX3 yX3_itemAt yX3_itemAt, Cond.code yX3_itemAt cX3_itemAt 2 (some (.object "TakeoffSheet$Item")), Cond.classLink RX3 67 "java/lang/IndexOutOfBoundsException", Cond.initialized "java/lang/IndexOutOfBoundsException", Cond.fieldLink RX3 23 "TakeoffSheet" "items" "Ljava/util/ArrayList;", Cond.classLink RX3 143 "TakeoffSheet$Item", Cond.methodLink RX3 98 yJx4a65c_size_8abf5, Cond.instanceMethod yJx4a65c_size_8abf5, Cond.selects RJx4a65c yJx4a65c_size_8abf5 yJx4a65c_size_8abf5, Cond.initialized RJx4a65c, Cond.code yJx4a65c_size_8abf5 cJx4a65c_size_8abf5 1 (some .int), Cond.fieldLink RJx4a65c 48 "java/util/ArrayList" "size" "I", Cond.methodLink RX3 101 yJx4a65c_get_915e3, Cond.instanceMethod yJx4a65c_get_915e3, Cond.selects RJx4a65c yJx4a65c_get_915e3 yJx4a65c_get_915e3, Cond.code yJx4a65c_get_915e3 cJx4a65c_get_915e3 2 (some (.object "java/lang/Object")), Cond.methodLink RJx4a65c 118 yJ15_checkIndex_7cf53]
def wsX3_heading_r2 : List Cond := [Cond.static yJ15_checkIndex_7cf53, Cond.initialized RJ15, Cond.code yJ15_checkIndex_7cf53 cJ15_checkIndex_7cf53 2 (some .int), Cond.methodLink RJ15 105 yJ3_checkIndex_8e157, Cond.static yJ3_checkIndex_8e157, Cond.initialized RJ3, Cond.code yJ3_checkIndex_8e157 cJ3_checkIndex_8e157 3 (some .int), Cond.methodLink RJx4a65c 123 yJx4a65c_elementData_915e3, Cond.instanceMethod yJx4a65c_elementData_915e3, Cond.selects RJx4a65c yJx4a65c_elementData_915e3 yJx4a65c_elementData_915e3, Cond.code yJx4a65c_elementData_915e3 cJx4a65c_elementData_915e3 2 (some (.object "java/lang/Object")), Cond.fieldLink RJx4a65c 9 "java/util/ArrayList" "elementData" "[Ljava/lang/Object;", Cond.methodLink RX3 131 yX3_addItem, Cond.instanceMethod yX3_addItem, Cond.selects RX3 yX3_addItem yX3_addItem, Cond.code yX3_addItem cX3_addItem 4 (some .int), Cond.classLink RX3 56 "java/lang/IllegalStateException", Cond.initialized "java/lang/IllegalStateException", Cond.classLink RX3 143 RX1, Cond.instantiable RX1 6, Cond.initialized RX1, Cond.methodLink RX3 169 yX1_isLeaf, Cond.instanceMethod yX1_isLeaf, Cond.selects RX1 yX1_isLeaf yX1_isLeaf]
def wsX3_heading_r3 : List Cond := [Cond.code yX1_isLeaf cX1_isLeaf 1 (some .boolean), Cond.fieldLink RX1 15 "TakeoffSheet$Item" "rate" "LTakeoffSheet$Rate;", Cond.methodLink RX3 207 yX1_init, Cond.instanceMethod yX1_init, Cond.code yX1_init cX1_init 4 none, Cond.methodLink RX1 3 objectInit, Cond.instanceMethod objectInit, Cond.code objectInit ⟨#[0xb1]⟩ 1 none, Cond.fieldLink RX1 9 "TakeoffSheet$Item" "parent" "LTakeoffSheet$Item;", Cond.fieldLink RX1 19 "TakeoffSheet$Item" "waste" "I", Cond.methodLink RX3 115 yJx4a65c_add_9ea2d, Cond.instanceMethod yJx4a65c_add_9ea2d, Cond.selects RJx4a65c yJx4a65c_add_9ea2d yJx4a65c_add_9ea2d, Cond.code yJx4a65c_add_9ea2d cJx4a65c_add_9ea2d 2 (some .boolean), Cond.fieldLink RJx4a65c 63 "java/util/ArrayList" "modCount" "I", Cond.sameField "java/util/ArrayList" "java/util/AbstractList" "modCount" "I", Cond.methodLink RJx4a65c 131 yJx4a65c_add_72be8, Cond.instanceMethod yJx4a65c_add_72be8, Cond.selects RJx4a65c yJx4a65c_add_72be8 yJx4a65c_add_72be8, Cond.code yJx4a65c_add_72be8 cJx4a65c_add_72be8 4 none, Cond.methodLink RJx4a65c 129 yJx4a65c_grow_d5877, Cond.instanceMethod yJx4a65c_grow_d5877, Cond.selects RJx4a65c yJx4a65c_grow_d5877 yJx4a65c_grow_d5877, Cond.code yJx4a65c_grow_d5877 cJx4a65c_grow_d5877 1 (some (.array (.object "java/lang/Object")))]
def wsX3_heading_r4 : List Cond := [Cond.methodLink RJx4a65c 69 yJx4a65c_grow_92f84, Cond.instanceMethod yJx4a65c_grow_92f84, Cond.selects RJx4a65c yJx4a65c_grow_92f84 yJx4a65c_grow_92f84, Cond.code yJx4a65c_grow_92f84 cJx4a65c_grow_92f84 4 (some (.array (.object "java/lang/Object"))), Cond.fieldLink RJx4a65c 39 "java/util/ArrayList" "DEFAULTCAPACITY_EMPTY_ELEMENTDATA" "[Ljava/lang/Object;", Cond.methodLink RJx4a65c 79 Lib.Math.max.name, Cond.static Lib.Math.max.name, Cond.initialized "java/lang/Math", Cond.code Lib.Math.max.name Lib.Math.max.code 2 (some .int), Cond.classLink RJx4a65c 7 "java/lang/Object", Cond.methodLink RJx4a65c 73 yJ8_newLength_cabcc, Cond.static yJ8_newLength_cabcc, Cond.initialized RJ8, Cond.code yJ8_newLength_cabcc cJ8_newLength_cabcc 4 (some .int), Cond.methodLink RJ8 194 Lib.Math.max.name, Cond.constant RJ8 200 (2147483639), Cond.methodLink RJ8 201 yJ8_hugeLength_7cf53, Cond.static yJ8_hugeLength_7cf53, Cond.code yJ8_hugeLength_7cf53 cJ8_hugeLength_7cf53 3 (some .int), Cond.methodLink RJx4a65c 66 yJ7_copyOf_1904c, Cond.static yJ7_copyOf_1904c, Cond.initialized RJ7, Cond.code yJ7_copyOf_1904c cJ7_copyOf_1904c 2 (some (.array (.object "java/lang/Object"))), Cond.methodLink RJ7 86 ⟨"java/lang/Object", "getClass", "()Ljava/lang/Class;"⟩]
def wsX3_heading_r5 : List Cond := [Cond.selects "[Ljava/lang/Object;" ⟨"java/lang/Object", "getClass", "()Ljava/lang/Class;"⟩ ⟨"java/lang/Object", "getClass", "()Ljava/lang/Class;"⟩, Cond.instanceMethod ⟨"java/lang/Object", "getClass", "()Ljava/lang/Class;"⟩, Cond.native ⟨"java/lang/Object", "getClass", "()Ljava/lang/Class;"⟩, Cond.methodLink RJ7 300 yJ7_copyOf_6403c, Cond.static yJ7_copyOf_6403c, Cond.code yJ7_copyOf_6403c cJ7_copyOf_6403c 4 (some (.array (.object "java/lang/Object"))), Cond.classLink RJ7 110 "[Ljava/lang/Object;", Cond.classLink RJ7 2 "java/lang/Object", Cond.methodLink RJ7 304 Lib.Math.min.name, Cond.static Lib.Math.min.name, Cond.code Lib.Math.min.name Lib.Math.min.code 2 (some .int), Cond.methodLink RJ7 150 arraycopyName, Cond.native arraycopyName, Cond.static arraycopyName, Cond.initialized "java/lang/System"]
def wsX3_heading : List Cond := .code yX3_heading cX3_heading 2 (some .int) :: ((wsX3_heading_r1 ++ (wsX3_heading_r2 ++ (wsX3_heading_r3 ++ (wsX3_heading_r4 ++ wsX3_heading_r5)))) ++ wsX30 ++ wsJx4a65c0 ++ wsX10 ++ (vx_atS RX3 71 "java/lang/IndexOutOfBoundsException" ["java/lang/RuntimeException", "java/lang/Exception"]).filter goodWord ++ (vx_atS RX3 60 "java/lang/IllegalStateException" ["java/lang/RuntimeException", "java/lang/Exception"]).filter goodWord)
def wsX3_leaf_r1 : List Cond := [Cond.methodLink RX3 127 yX3_parentAt, Cond.instanceMethod yX3_parentAt, Cond.selects RX3 yX3_parentAt yX3_parentAt, Cond.initialized RX3, Cond.code yX3_parentAt cX3_parentAt 2 (some (.object "TakeoffSheet$Item")), Cond.methodLink RX3 135 yX3_itemAt, Cond.instanceMethod yX3_itemAt, Cond.selects RX3 yX3_itemAt yX3_itemAt, Cond.code yX3_itemAt cX3_itemAt 2 (some (.object "TakeoffSheet$Item")), Cond.classLink RX3 67 "java/lang/IndexOutOfBoundsException", Cond.initialized "java/lang/IndexOutOfBoundsException", Cond.fieldLink RX3 23 "TakeoffSheet" "items" "Ljava/util/ArrayList;", Cond.classLink RX3 143 "TakeoffSheet$Item", Cond.methodLink RX3 98 yJx4a65c_size_8abf5, Cond.instanceMethod yJx4a65c_size_8abf5, Cond.selects RJx4a65c yJx4a65c_size_8abf5 yJx4a65c_size_8abf5, Cond.initialized RJx4a65c, Cond.code yJx4a65c_size_8abf5 cJx4a65c_size_8abf5 1 (some .int), Cond.fieldLink RJx4a65c 48 "java/util/ArrayList" "size" "I", Cond.methodLink RX3 101 yJx4a65c_get_915e3, Cond.instanceMethod yJx4a65c_get_915e3, Cond.selects RJx4a65c yJx4a65c_get_915e3 yJx4a65c_get_915e3, Cond.code yJx4a65c_get_915e3 cJx4a65c_get_915e3 2 (some (.object "java/lang/Object")), Cond.methodLink RJx4a65c 118 yJ15_checkIndex_7cf53]
def wsX3_leaf_r2 : List Cond := [Cond.static yJ15_checkIndex_7cf53, Cond.initialized RJ15, Cond.code yJ15_checkIndex_7cf53 cJ15_checkIndex_7cf53 2 (some .int), Cond.methodLink RJ15 105 yJ3_checkIndex_8e157, Cond.static yJ3_checkIndex_8e157, Cond.initialized RJ3, Cond.code yJ3_checkIndex_8e157 cJ3_checkIndex_8e157 3 (some .int), Cond.methodLink RJx4a65c 123 yJx4a65c_elementData_915e3, Cond.instanceMethod yJx4a65c_elementData_915e3, Cond.selects RJx4a65c yJx4a65c_elementData_915e3 yJx4a65c_elementData_915e3, Cond.code yJx4a65c_elementData_915e3 cJx4a65c_elementData_915e3 2 (some (.object "java/lang/Object")), Cond.fieldLink RJx4a65c 9 "java/util/ArrayList" "elementData" "[Ljava/lang/Object;", Cond.methodLink RX3 119 yX3_rateAt, Cond.instanceMethod yX3_rateAt, Cond.selects RX3 yX3_rateAt yX3_rateAt, Cond.code yX3_rateAt cX3_rateAt 2 (some (.object "TakeoffSheet$Rate")), Cond.fieldLink RX3 19 "TakeoffSheet" "rates" "Ljava/util/ArrayList;", Cond.classLink RX3 105 "TakeoffSheet$Rate", Cond.methodLink RX3 41 yX3_checkRange, Cond.static yX3_checkRange, Cond.code yX3_checkRange cX3_checkRange 3 none, Cond.classLink RX3 190 "java/lang/IllegalArgumentException", Cond.initialized "java/lang/IllegalArgumentException", Cond.methodLink RX3 131 yX3_addItem]
def wsX3_leaf_r3 : List Cond := [Cond.instanceMethod yX3_addItem, Cond.selects RX3 yX3_addItem yX3_addItem, Cond.code yX3_addItem cX3_addItem 4 (some .int), Cond.classLink RX3 56 "java/lang/IllegalStateException", Cond.initialized "java/lang/IllegalStateException", Cond.classLink RX3 143 RX1, Cond.instantiable RX1 6, Cond.initialized RX1, Cond.methodLink RX3 169 yX1_isLeaf, Cond.instanceMethod yX1_isLeaf, Cond.selects RX1 yX1_isLeaf yX1_isLeaf, Cond.code yX1_isLeaf cX1_isLeaf 1 (some .boolean), Cond.fieldLink RX1 15 "TakeoffSheet$Item" "rate" "LTakeoffSheet$Rate;", Cond.methodLink RX3 207 yX1_init, Cond.instanceMethod yX1_init, Cond.code yX1_init cX1_init 4 none, Cond.methodLink RX1 3 objectInit, Cond.instanceMethod objectInit, Cond.code objectInit ⟨#[0xb1]⟩ 1 none, Cond.fieldLink RX1 9 "TakeoffSheet$Item" "parent" "LTakeoffSheet$Item;", Cond.fieldLink RX1 19 "TakeoffSheet$Item" "waste" "I", Cond.methodLink RX3 115 yJx4a65c_add_9ea2d, Cond.instanceMethod yJx4a65c_add_9ea2d, Cond.selects RJx4a65c yJx4a65c_add_9ea2d yJx4a65c_add_9ea2d]
def wsX3_leaf_r4 : List Cond := [Cond.code yJx4a65c_add_9ea2d cJx4a65c_add_9ea2d 2 (some .boolean), Cond.fieldLink RJx4a65c 63 "java/util/ArrayList" "modCount" "I", Cond.sameField "java/util/ArrayList" "java/util/AbstractList" "modCount" "I", Cond.methodLink RJx4a65c 131 yJx4a65c_add_72be8, Cond.instanceMethod yJx4a65c_add_72be8, Cond.selects RJx4a65c yJx4a65c_add_72be8 yJx4a65c_add_72be8, Cond.code yJx4a65c_add_72be8 cJx4a65c_add_72be8 4 none, Cond.methodLink RJx4a65c 129 yJx4a65c_grow_d5877, Cond.instanceMethod yJx4a65c_grow_d5877, Cond.selects RJx4a65c yJx4a65c_grow_d5877 yJx4a65c_grow_d5877, Cond.code yJx4a65c_grow_d5877 cJx4a65c_grow_d5877 1 (some (.array (.object "java/lang/Object"))), Cond.methodLink RJx4a65c 69 yJx4a65c_grow_92f84, Cond.instanceMethod yJx4a65c_grow_92f84, Cond.selects RJx4a65c yJx4a65c_grow_92f84 yJx4a65c_grow_92f84, Cond.code yJx4a65c_grow_92f84 cJx4a65c_grow_92f84 4 (some (.array (.object "java/lang/Object"))), Cond.fieldLink RJx4a65c 39 "java/util/ArrayList" "DEFAULTCAPACITY_EMPTY_ELEMENTDATA" "[Ljava/lang/Object;", Cond.methodLink RJx4a65c 79 Lib.Math.max.name, Cond.static Lib.Math.max.name, Cond.initialized "java/lang/Math", Cond.code Lib.Math.max.name Lib.Math.max.code 2 (some .int), Cond.classLink RJx4a65c 7 "java/lang/Object", Cond.methodLink RJx4a65c 73 yJ8_newLength_cabcc, Cond.static yJ8_newLength_cabcc, Cond.initialized RJ8]
def wsX3_leaf_r5 : List Cond := [Cond.code yJ8_newLength_cabcc cJ8_newLength_cabcc 4 (some .int), Cond.methodLink RJ8 194 Lib.Math.max.name, Cond.constant RJ8 200 (2147483639), Cond.methodLink RJ8 201 yJ8_hugeLength_7cf53, Cond.static yJ8_hugeLength_7cf53, Cond.code yJ8_hugeLength_7cf53 cJ8_hugeLength_7cf53 3 (some .int), Cond.methodLink RJx4a65c 66 yJ7_copyOf_1904c, Cond.static yJ7_copyOf_1904c, Cond.initialized RJ7, Cond.code yJ7_copyOf_1904c cJ7_copyOf_1904c 2 (some (.array (.object "java/lang/Object"))), Cond.methodLink RJ7 86 ⟨"java/lang/Object", "getClass", "()Ljava/lang/Class;"⟩, Cond.selects "[Ljava/lang/Object;" ⟨"java/lang/Object", "getClass", "()Ljava/lang/Class;"⟩ ⟨"java/lang/Object", "getClass", "()Ljava/lang/Class;"⟩, Cond.instanceMethod ⟨"java/lang/Object", "getClass", "()Ljava/lang/Class;"⟩, Cond.native ⟨"java/lang/Object", "getClass", "()Ljava/lang/Class;"⟩, Cond.methodLink RJ7 300 yJ7_copyOf_6403c, Cond.static yJ7_copyOf_6403c, Cond.code yJ7_copyOf_6403c cJ7_copyOf_6403c 4 (some (.array (.object "java/lang/Object"))), Cond.classLink RJ7 110 "[Ljava/lang/Object;", Cond.classLink RJ7 2 "java/lang/Object", Cond.methodLink RJ7 304 Lib.Math.min.name, Cond.static Lib.Math.min.name, Cond.code Lib.Math.min.name Lib.Math.min.code 2 (some .int), Cond.methodLink RJ7 150 arraycopyName, Cond.native arraycopyName]
def wsX3_leaf_r6 : List Cond := [Cond.static arraycopyName, Cond.initialized "java/lang/System"]
def wsX3_leaf : List Cond := .code yX3_leaf cX3_leaf 6 (some .int) :: ((wsX3_leaf_r1 ++ (wsX3_leaf_r2 ++ (wsX3_leaf_r3 ++ (wsX3_leaf_r4 ++ (wsX3_leaf_r5 ++ wsX3_leaf_r6))))) ++ wsX30 ++ wsJx4a65c0 ++ wsX10 ++ (vx_atS RX3 71 "java/lang/IndexOutOfBoundsException" ["java/lang/RuntimeException", "java/lang/Exception"]).filter goodWord ++ (vx_atS RX3 194 "java/lang/IllegalArgumentException" ["java/lang/RuntimeException", "java/lang/Exception"]).filter goodWord ++ (vx_atS RX3 60 "java/lang/IllegalStateException" ["java/lang/RuntimeException", "java/lang/Exception"]).filter goodWord)
def wsX3_items : List Cond := .code yX3_items cX3_items 1 (some .int) :: ([.fieldLink RX3 23 "TakeoffSheet" "items" "Ljava/util/ArrayList;", .methodLink RX3 98 yJx4a65c_size_8abf5, .instanceMethod yJx4a65c_size_8abf5, .selects RJx4a65c yJx4a65c_size_8abf5 yJx4a65c_size_8abf5, .initialized RJx4a65c, .code yJx4a65c_size_8abf5 cJx4a65c_size_8abf5 1 (some .int), .fieldLink RJx4a65c 48 "java/util/ArrayList" "size" "I"] ++ wsX30 ++ wsJx4a65c0)
def wsX3_checkLeaf : List Cond := .code yX3_checkLeaf cX3_checkLeaf 1 none :: ([.classLink RX3 56 "java/lang/IllegalStateException", .initialized "java/lang/IllegalStateException", .methodLink RX3 169 yX1_isLeaf, .instanceMethod yX1_isLeaf, .selects RX1 yX1_isLeaf yX1_isLeaf, .initialized RX1, .code yX1_isLeaf cX1_isLeaf 1 (some .boolean), .fieldLink RX1 15 "TakeoffSheet$Item" "rate" "LTakeoffSheet$Rate;"] ++ wsX10 ++ (vx_atS RX3 60 "java/lang/IllegalStateException" ["java/lang/RuntimeException", "java/lang/Exception"]).filter goodWord)
def wsX3_take_r1 : List Cond := [Cond.fieldLink RX3 142 "TakeoffSheet$Item" "measure" "I", Cond.fieldLink RX3 10 "TakeoffSheet" "drawing" "LTakeoffSheet$Drawing;", Cond.fieldLink RX3 30 "TakeoffSheet" "limit" "I", Cond.methodLink RX3 135 yX3_itemAt, Cond.instanceMethod yX3_itemAt, Cond.selects RX3 yX3_itemAt yX3_itemAt, Cond.initialized RX3, Cond.code yX3_itemAt cX3_itemAt 2 (some (.object "TakeoffSheet$Item")), Cond.classLink RX3 67 "java/lang/IndexOutOfBoundsException", Cond.initialized "java/lang/IndexOutOfBoundsException", Cond.fieldLink RX3 23 "TakeoffSheet" "items" "Ljava/util/ArrayList;", Cond.classLink RX3 143 "TakeoffSheet$Item", Cond.methodLink RX3 98 yJx4a65c_size_8abf5, Cond.instanceMethod yJx4a65c_size_8abf5, Cond.selects RJx4a65c yJx4a65c_size_8abf5 yJx4a65c_size_8abf5, Cond.initialized RJx4a65c, Cond.code yJx4a65c_size_8abf5 cJx4a65c_size_8abf5 1 (some .int), Cond.fieldLink RJx4a65c 48 "java/util/ArrayList" "size" "I", Cond.methodLink RX3 101 yJx4a65c_get_915e3, Cond.instanceMethod yJx4a65c_get_915e3, Cond.selects RJx4a65c yJx4a65c_get_915e3 yJx4a65c_get_915e3, Cond.code yJx4a65c_get_915e3 cJx4a65c_get_915e3 2 (some (.object "java/lang/Object")), Cond.methodLink RJx4a65c 118 yJ15_checkIndex_7cf53, Cond.static yJ15_checkIndex_7cf53]
def wsX3_take_r2 : List Cond := [Cond.initialized RJ15, Cond.code yJ15_checkIndex_7cf53 cJ15_checkIndex_7cf53 2 (some .int), Cond.methodLink RJ15 105 yJ3_checkIndex_8e157, Cond.static yJ3_checkIndex_8e157, Cond.initialized RJ3, Cond.code yJ3_checkIndex_8e157 cJ3_checkIndex_8e157 3 (some .int), Cond.methodLink RJx4a65c 123 yJx4a65c_elementData_915e3, Cond.instanceMethod yJx4a65c_elementData_915e3, Cond.selects RJx4a65c yJx4a65c_elementData_915e3 yJx4a65c_elementData_915e3, Cond.code yJx4a65c_elementData_915e3 cJx4a65c_elementData_915e3 2 (some (.object "java/lang/Object")), Cond.fieldLink RJx4a65c 9 "java/util/ArrayList" "elementData" "[Ljava/lang/Object;", Cond.methodLink RX3 41 yX3_checkRange, Cond.static yX3_checkRange, Cond.code yX3_checkRange cX3_checkRange 3 none, Cond.classLink RX3 190 "java/lang/IllegalArgumentException", Cond.initialized "java/lang/IllegalArgumentException", Cond.methodLink RX3 138 yX3_checkLeaf, Cond.static yX3_checkLeaf, Cond.code yX3_checkLeaf cX3_checkLeaf 1 none, Cond.classLink RX3 56 "java/lang/IllegalStateException", Cond.initialized "java/lang/IllegalStateException", Cond.methodLink RX3 169 yX1_isLeaf, Cond.instanceMethod yX1_isLeaf, Cond.selects RX1 yX1_isLeaf yX1_isLeaf]
def wsX3_take_r3 : List Cond := [Cond.initialized RX1, Cond.code yX1_isLeaf cX1_isLeaf 1 (some .boolean), Cond.fieldLink RX1 15 "TakeoffSheet$Item" "rate" "LTakeoffSheet$Rate;", Cond.methodLink RX3 75 yX3_checkClosed, Cond.instanceMethod yX3_checkClosed, Cond.selects RX3 yX3_checkClosed yX3_checkClosed, Cond.code yX3_checkClosed cX3_checkClosed 1 none, Cond.fieldLink RX3 53 "TakeoffSheet$Drawing" "closed" "Z", Cond.methodLink RX3 94 yX0_areaLeft, Cond.instanceMethod yX0_areaLeft, Cond.selects RX0 yX0_areaLeft yX0_areaLeft, Cond.initialized RX0, Cond.code yX0_areaLeft cX0_areaLeft 4 (some .int), Cond.fieldLink RX0 18 "TakeoffSheet$Drawing" "openings" "[I", Cond.methodLink RX0 84 Lib.Math.max.name, Cond.static Lib.Math.max.name, Cond.initialized "java/lang/Math", Cond.code Lib.Math.max.name Lib.Math.max.code 2 (some .int), Cond.methodLink RX0 93 yX0_areaByCorners, Cond.instanceMethod yX0_areaByCorners, Cond.selects RX0 yX0_areaByCorners yX0_areaByCorners, Cond.code yX0_areaByCorners cX0_areaByCorners 1 (some .int), Cond.fieldLink RX0 38 "TakeoffSheet$Drawing" "twiceArea" "I", Cond.methodLink RX0 87 Lib.Math.abs.name]
def wsX3_take_r4 : List Cond := [Cond.static Lib.Math.abs.name, Cond.code Lib.Math.abs.name Lib.Math.abs.code 1 (some .int), Cond.methodLink RX3 147 yX0_takeAway, Cond.instanceMethod yX0_takeAway, Cond.selects RX0 yX0_takeAway yX0_takeAway, Cond.code yX0_takeAway cX0_takeAway 1 none, Cond.fieldLink RX0 57 "TakeoffSheet$Drawing" "begun" "Z", Cond.fieldLink RX0 61 "TakeoffSheet$Drawing" "closed" "Z"]
def wsX3_take : List Cond := .code yX3_take cX3_take 4 (some .int) :: ((wsX3_take_r1 ++ (wsX3_take_r2 ++ (wsX3_take_r3 ++ wsX3_take_r4))) ++ wsX10 ++ wsX30 ++ wsJx4a65c0 ++ wsX00 ++ (vx_atS RX3 71 "java/lang/IndexOutOfBoundsException" ["java/lang/RuntimeException", "java/lang/Exception"]).filter goodWord ++ (vx_atS RX3 194 "java/lang/IllegalArgumentException" ["java/lang/RuntimeException", "java/lang/Exception"]).filter goodWord ++ (vx_atS RX3 60 "java/lang/IllegalStateException" ["java/lang/RuntimeException", "java/lang/Exception"]).filter goodWord)
def wsX3_vary_r1 : List Cond := [Cond.classLink RX3 56 "java/lang/IllegalStateException", Cond.initialized "java/lang/IllegalStateException", Cond.fieldLink RX3 150 "TakeoffSheet$Item" "variation" "I", Cond.methodLink RX3 135 yX3_itemAt, Cond.instanceMethod yX3_itemAt, Cond.selects RX3 yX3_itemAt yX3_itemAt, Cond.initialized RX3, Cond.code yX3_itemAt cX3_itemAt 2 (some (.object "TakeoffSheet$Item")), Cond.classLink RX3 67 "java/lang/IndexOutOfBoundsException", Cond.initialized "java/lang/IndexOutOfBoundsException", Cond.fieldLink RX3 23 "TakeoffSheet" "items" "Ljava/util/ArrayList;", Cond.classLink RX3 143 "TakeoffSheet$Item", Cond.methodLink RX3 98 yJx4a65c_size_8abf5, Cond.instanceMethod yJx4a65c_size_8abf5, Cond.selects RJx4a65c yJx4a65c_size_8abf5 yJx4a65c_size_8abf5, Cond.initialized RJx4a65c, Cond.code yJx4a65c_size_8abf5 cJx4a65c_size_8abf5 1 (some .int), Cond.fieldLink RJx4a65c 48 "java/util/ArrayList" "size" "I", Cond.methodLink RX3 101 yJx4a65c_get_915e3, Cond.instanceMethod yJx4a65c_get_915e3, Cond.selects RJx4a65c yJx4a65c_get_915e3 yJx4a65c_get_915e3, Cond.code yJx4a65c_get_915e3 cJx4a65c_get_915e3 2 (some (.object "java/lang/Object")), Cond.methodLink RJx4a65c 118 yJ15_checkIndex_7cf53, Cond.static yJ15_checkIndex_7cf53]
def wsX3_vary_r2 : List Cond := [Cond.initialized RJ15, Cond.code yJ15_checkIndex_7cf53 cJ15_checkIndex_7cf53 2 (some .int), Cond.methodLink RJ15 105 yJ3_checkIndex_8e157, Cond.static yJ3_checkIndex_8e157, Cond.initialized RJ3, Cond.code yJ3_checkIndex_8e157 cJ3_checkIndex_8e157 3 (some .int), Cond.methodLink RJx4a65c 123 yJx4a65c_elementData_915e3, Cond.instanceMethod yJx4a65c_elementData_915e3, Cond.selects RJx4a65c yJx4a65c_elementData_915e3 yJx4a65c_elementData_915e3, Cond.code yJx4a65c_elementData_915e3 cJx4a65c_elementData_915e3 2 (some (.object "java/lang/Object")), Cond.fieldLink RJx4a65c 9 "java/util/ArrayList" "elementData" "[Ljava/lang/Object;", Cond.methodLink RX3 41 yX3_checkRange, Cond.static yX3_checkRange, Cond.code yX3_checkRange cX3_checkRange 3 none, Cond.classLink RX3 190 "java/lang/IllegalArgumentException", Cond.initialized "java/lang/IllegalArgumentException", Cond.methodLink RX3 138 yX3_checkLeaf, Cond.static yX3_checkLeaf, Cond.code yX3_checkLeaf cX3_checkLeaf 1 none, Cond.methodLink RX3 169 yX1_isLeaf, Cond.instanceMethod yX1_isLeaf, Cond.selects RX1 yX1_isLeaf yX1_isLeaf, Cond.initialized RX1, Cond.code yX1_isLeaf cX1_isLeaf 1 (some .boolean)]
def wsX3_vary_r3 : List Cond := [Cond.fieldLink RX1 15 "TakeoffSheet$Item" "rate" "LTakeoffSheet$Rate;"]
def wsX3_vary : List Cond := .code yX3_vary cX3_vary 5 (some .int) :: ((wsX3_vary_r1 ++ (wsX3_vary_r2 ++ wsX3_vary_r3)) ++ wsX10 ++ wsX30 ++ wsJx4a65c0 ++ (vx_atS RX3 60 "java/lang/IllegalStateException" ["java/lang/RuntimeException", "java/lang/Exception"]).filter goodWord ++ (vx_atS RX3 71 "java/lang/IndexOutOfBoundsException" ["java/lang/RuntimeException", "java/lang/Exception"]).filter goodWord ++ (vx_atS RX3 194 "java/lang/IllegalArgumentException" ["java/lang/RuntimeException", "java/lang/Exception"]).filter goodWord)
def wsX3_quantity_r1 : List Cond := [Cond.methodLink RX3 135 yX3_itemAt, Cond.instanceMethod yX3_itemAt, Cond.selects RX3 yX3_itemAt yX3_itemAt, Cond.initialized RX3, Cond.code yX3_itemAt cX3_itemAt 2 (some (.object "TakeoffSheet$Item")), Cond.classLink RX3 67 "java/lang/IndexOutOfBoundsException", Cond.initialized "java/lang/IndexOutOfBoundsException", Cond.fieldLink RX3 23 "TakeoffSheet" "items" "Ljava/util/ArrayList;", Cond.classLink RX3 143 "TakeoffSheet$Item", Cond.methodLink RX3 98 yJx4a65c_size_8abf5, Cond.instanceMethod yJx4a65c_size_8abf5, Cond.selects RJx4a65c yJx4a65c_size_8abf5 yJx4a65c_size_8abf5, Cond.initialized RJx4a65c, Cond.code yJx4a65c_size_8abf5 cJx4a65c_size_8abf5 1 (some .int), Cond.fieldLink RJx4a65c 48 "java/util/ArrayList" "size" "I", Cond.methodLink RX3 101 yJx4a65c_get_915e3, Cond.instanceMethod yJx4a65c_get_915e3, Cond.selects RJx4a65c yJx4a65c_get_915e3 yJx4a65c_get_915e3, Cond.code yJx4a65c_get_915e3 cJx4a65c_get_915e3 2 (some (.object "java/lang/Object")), Cond.methodLink RJx4a65c 118 yJ15_checkIndex_7cf53, Cond.static yJ15_checkIndex_7cf53, Cond.initialized RJ15, Cond.code yJ15_checkIndex_7cf53 cJ15_checkIndex_7cf53 2 (some .int), Cond.methodLink RJ15 105 yJ3_checkIndex_8e157]
def wsX3_quantity_r2 : List Cond := [Cond.static yJ3_checkIndex_8e157, Cond.initialized RJ3, Cond.code yJ3_checkIndex_8e157 cJ3_checkIndex_8e157 3 (some .int), Cond.methodLink RJx4a65c 123 yJx4a65c_elementData_915e3, Cond.instanceMethod yJx4a65c_elementData_915e3, Cond.selects RJx4a65c yJx4a65c_elementData_915e3 yJx4a65c_elementData_915e3, Cond.code yJx4a65c_elementData_915e3 cJx4a65c_elementData_915e3 2 (some (.object "java/lang/Object")), Cond.fieldLink RJx4a65c 9 "java/util/ArrayList" "elementData" "[Ljava/lang/Object;", Cond.methodLink RX3 138 yX3_checkLeaf, Cond.static yX3_checkLeaf, Cond.code yX3_checkLeaf cX3_checkLeaf 1 none, Cond.classLink RX3 56 "java/lang/IllegalStateException", Cond.initialized "java/lang/IllegalStateException", Cond.methodLink RX3 169 yX1_isLeaf, Cond.instanceMethod yX1_isLeaf, Cond.selects RX1 yX1_isLeaf yX1_isLeaf, Cond.initialized RX1, Cond.code yX1_isLeaf cX1_isLeaf 1 (some .boolean), Cond.fieldLink RX1 15 "TakeoffSheet$Item" "rate" "LTakeoffSheet$Rate;", Cond.methodLink RX3 155 yX1_measureWithWaste, Cond.instanceMethod yX1_measureWithWaste, Cond.selects RX1 yX1_measureWithWaste yX1_measureWithWaste, Cond.code yX1_measureWithWaste cX1_measureWithWaste 1 (some .long), Cond.fieldLink RX1 23 "TakeoffSheet$Item" "measure" "I"]
def wsX3_quantity_r3 : List Cond := [Cond.fieldLink RX1 19 "TakeoffSheet$Item" "waste" "I", Cond.static yX3_hundredthsRoundedUp, Cond.code yX3_hundredthsRoundedUp cX3_hundredthsRoundedUp 2 (some .long), Cond.constantLong RX3 176 (100)]
def wsX3_quantity : List Cond := .code yX3_quantity cX3_quantity 3 (some .int) :: ((wsX3_quantity_r1 ++ (wsX3_quantity_r2 ++ wsX3_quantity_r3)) ++ wsX30 ++ wsJx4a65c0 ++ wsX10 ++ (vx_atS RX3 71 "java/lang/IndexOutOfBoundsException" ["java/lang/RuntimeException", "java/lang/Exception"]).filter goodWord ++ (vx_atS RX3 60 "java/lang/IllegalStateException" ["java/lang/RuntimeException", "java/lang/Exception"]).filter goodWord)
def wsX3_ownSum_r1 : List Cond := [Cond.fieldLink RX3 219 "TakeoffSheet$Item" "rate" "LTakeoffSheet$Rate;", Cond.fieldLink RX3 150 "TakeoffSheet$Item" "variation" "I", Cond.methodLink RX3 223 Lib.MathLoose.max_long.x, Cond.static Lib.MathLoose.max_long.x, Cond.initialized "java/lang/Math", Cond.code Lib.MathLoose.max_long.x Lib.MathLoose.max_long.code 4 (some .long), Cond.methodLink RX3 155 yX1_measureWithWaste, Cond.instanceMethod yX1_measureWithWaste, Cond.selects RX1 yX1_measureWithWaste yX1_measureWithWaste, Cond.initialized RX1, Cond.code yX1_measureWithWaste cX1_measureWithWaste 1 (some .long), Cond.fieldLink RX1 23 "TakeoffSheet$Item" "measure" "I", Cond.fieldLink RX1 19 "TakeoffSheet$Item" "waste" "I", Cond.static yX3_hundredthsRoundedUp, Cond.initialized RX3, Cond.code yX3_hundredthsRoundedUp cX3_hundredthsRoundedUp 2 (some .long), Cond.constantLong RX3 176 (100), Cond.methodLink RX3 123 yX3_priceOf, Cond.instanceMethod yX3_priceOf, Cond.selects RX3 yX3_priceOf yX3_priceOf, Cond.code yX3_priceOf cX3_priceOf 2 (some .int), Cond.fieldLink RX3 210 "TakeoffSheet$Rate" "labour" "I", Cond.fieldLink RX3 26 "TakeoffSheet" "prices" "[I", Cond.fieldLink RX3 213 "TakeoffSheet$Rate" "plant" "I"]
def wsX3_ownSum_r2 : List Cond := [Cond.fieldLink RX3 216 "TakeoffSheet$Rate" "material" "I"]
def wsX3_ownSum : List Cond := .code yX3_ownSum cX3_ownSum 2 (some .long) :: ((wsX3_ownSum_r1 ++ wsX3_ownSum_r2) ++ wsX10 ++ wsX20 ++ wsX30)
def wsX3_sum_r1 : List Cond := [Cond.fieldLink RX3 23 "TakeoffSheet" "items" "Ljava/util/ArrayList;", Cond.classLink RX3 143 "TakeoffSheet$Item", Cond.methodLink RX3 135 yX3_itemAt, Cond.instanceMethod yX3_itemAt, Cond.selects RX3 yX3_itemAt yX3_itemAt, Cond.initialized RX3, Cond.code yX3_itemAt cX3_itemAt 2 (some (.object "TakeoffSheet$Item")), Cond.classLink RX3 67 "java/lang/IndexOutOfBoundsException", Cond.initialized "java/lang/IndexOutOfBoundsException", Cond.methodLink RX3 98 yJx4a65c_size_8abf5, Cond.instanceMethod yJx4a65c_size_8abf5, Cond.selects RJx4a65c yJx4a65c_size_8abf5 yJx4a65c_size_8abf5, Cond.initialized RJx4a65c, Cond.code yJx4a65c_size_8abf5 cJx4a65c_size_8abf5 1 (some .int), Cond.fieldLink RJx4a65c 48 "java/util/ArrayList" "size" "I", Cond.methodLink RX3 101 yJx4a65c_get_915e3, Cond.instanceMethod yJx4a65c_get_915e3, Cond.selects RJx4a65c yJx4a65c_get_915e3 yJx4a65c_get_915e3, Cond.code yJx4a65c_get_915e3 cJx4a65c_get_915e3 2 (some (.object "java/lang/Object")), Cond.methodLink RJx4a65c 118 yJ15_checkIndex_7cf53, Cond.static yJ15_checkIndex_7cf53, Cond.initialized RJ15, Cond.code yJ15_checkIndex_7cf53 cJ15_checkIndex_7cf53 2 (some .int), Cond.methodLink RJ15 105 yJ3_checkIndex_8e157]
def wsX3_sum_r2 : List Cond := [Cond.static yJ3_checkIndex_8e157, Cond.initialized RJ3, Cond.code yJ3_checkIndex_8e157 cJ3_checkIndex_8e157 3 (some .int), Cond.methodLink RJx4a65c 123 yJx4a65c_elementData_915e3, Cond.instanceMethod yJx4a65c_elementData_915e3, Cond.selects RJx4a65c yJx4a65c_elementData_915e3 yJx4a65c_elementData_915e3, Cond.code yJx4a65c_elementData_915e3 cJx4a65c_elementData_915e3 2 (some (.object "java/lang/Object")), Cond.fieldLink RJx4a65c 9 "java/util/ArrayList" "elementData" "[Ljava/lang/Object;", Cond.methodLink RX3 159 yX1_standsUnder, Cond.instanceMethod yX1_standsUnder, Cond.selects RX1 yX1_standsUnder yX1_standsUnder, Cond.initialized RX1, Cond.code yX1_standsUnder cX1_standsUnder 3 (some .boolean), Cond.fieldLink RX1 9 "TakeoffSheet$Item" "parent" "LTakeoffSheet$Item;", Cond.methodLink RX3 163 yX3_ownSum, Cond.instanceMethod yX3_ownSum, Cond.selects RX3 yX3_ownSum yX3_ownSum, Cond.code yX3_ownSum cX3_ownSum 2 (some .long), Cond.fieldLink RX3 219 "TakeoffSheet$Item" "rate" "LTakeoffSheet$Rate;", Cond.fieldLink RX3 150 "TakeoffSheet$Item" "variation" "I", Cond.methodLink RX3 223 Lib.MathLoose.max_long.x, Cond.static Lib.MathLoose.max_long.x, Cond.initialized "java/lang/Math", Cond.code Lib.MathLoose.max_long.x Lib.MathLoose.max_long.code 4 (some .long)]
def wsX3_sum_r3 : List Cond := [Cond.methodLink RX3 155 yX1_measureWithWaste, Cond.instanceMethod yX1_measureWithWaste, Cond.selects RX1 yX1_measureWithWaste yX1_measureWithWaste, Cond.code yX1_measureWithWaste cX1_measureWithWaste 1 (some .long), Cond.fieldLink RX1 23 "TakeoffSheet$Item" "measure" "I", Cond.fieldLink RX1 19 "TakeoffSheet$Item" "waste" "I", Cond.static yX3_hundredthsRoundedUp, Cond.code yX3_hundredthsRoundedUp cX3_hundredthsRoundedUp 2 (some .long), Cond.constantLong RX3 176 (100), Cond.methodLink RX3 123 yX3_priceOf, Cond.instanceMethod yX3_priceOf, Cond.selects RX3 yX3_priceOf yX3_priceOf, Cond.code yX3_priceOf cX3_priceOf 2 (some .int), Cond.fieldLink RX3 210 "TakeoffSheet$Rate" "labour" "I", Cond.fieldLink RX3 26 "TakeoffSheet" "prices" "[I", Cond.fieldLink RX3 213 "TakeoffSheet$Rate" "plant" "I", Cond.fieldLink RX3 216 "TakeoffSheet$Rate" "material" "I"]
def wsX3_sum : List Cond := .code yX3_sum cX3_sum 7 (some .long) :: ((wsX3_sum_r1 ++ (wsX3_sum_r2 ++ wsX3_sum_r3)) ++ wsX30 ++ wsJx4a65c0 ++ wsX10 ++ wsX20 ++ (vx_atS RX3 71 "java/lang/IndexOutOfBoundsException" ["java/lang/RuntimeException", "java/lang/Exception"]).filter goodWord)
def wsX3_total_r1 : List Cond := [Cond.fieldLink RX3 23 "TakeoffSheet" "items" "Ljava/util/ArrayList;", Cond.classLink RX3 143 "TakeoffSheet$Item", Cond.methodLink RX3 98 yJx4a65c_size_8abf5, Cond.instanceMethod yJx4a65c_size_8abf5, Cond.selects RJx4a65c yJx4a65c_size_8abf5 yJx4a65c_size_8abf5, Cond.initialized RJx4a65c, Cond.code yJx4a65c_size_8abf5 cJx4a65c_size_8abf5 1 (some .int), Cond.fieldLink RJx4a65c 48 "java/util/ArrayList" "size" "I", Cond.methodLink RX3 101 yJx4a65c_get_915e3, Cond.instanceMethod yJx4a65c_get_915e3, Cond.selects RJx4a65c yJx4a65c_get_915e3 yJx4a65c_get_915e3, Cond.code yJx4a65c_get_915e3 cJx4a65c_get_915e3 2 (some (.object "java/lang/Object")), Cond.methodLink RJx4a65c 118 yJ15_checkIndex_7cf53, Cond.static yJ15_checkIndex_7cf53, Cond.initialized RJ15, Cond.code yJ15_checkIndex_7cf53 cJ15_checkIndex_7cf53 2 (some .int), Cond.methodLink RJ15 105 yJ3_checkIndex_8e157, Cond.static yJ3_checkIndex_8e157, Cond.initialized RJ3, Cond.code yJ3_checkIndex_8e157 cJ3_checkIndex_8e157 3 (some .int), Cond.methodLink RJx4a65c 123 yJx4a65c_elementData_915e3, Cond.instanceMethod yJx4a65c_elementData_915e3, Cond.selects RJx4a65c yJx4a65c_elementData_915e3 yJx4a65c_elementData_915e3, Cond.code yJx4a65c_elementData_915e3 cJx4a65c_elementData_915e3 2 (some (.object "java/lang/Object"))]
def wsX3_total_r2 : List Cond := [Cond.fieldLink RJx4a65c 9 "java/util/ArrayList" "elementData" "[Ljava/lang/Object;", Cond.methodLink RX3 163 yX3_ownSum, Cond.instanceMethod yX3_ownSum, Cond.selects RX3 yX3_ownSum yX3_ownSum, Cond.initialized RX3, Cond.code yX3_ownSum cX3_ownSum 2 (some .long), Cond.fieldLink RX3 219 "TakeoffSheet$Item" "rate" "LTakeoffSheet$Rate;", Cond.fieldLink RX3 150 "TakeoffSheet$Item" "variation" "I", Cond.methodLink RX3 223 Lib.MathLoose.max_long.x, Cond.static Lib.MathLoose.max_long.x, Cond.initialized "java/lang/Math", Cond.code Lib.MathLoose.max_long.x Lib.MathLoose.max_long.code 4 (some .long), Cond.methodLink RX3 155 yX1_measureWithWaste, Cond.instanceMethod yX1_measureWithWaste, Cond.selects RX1 yX1_measureWithWaste yX1_measureWithWaste, Cond.initialized RX1, Cond.code yX1_measureWithWaste cX1_measureWithWaste 1 (some .long), Cond.fieldLink RX1 23 "TakeoffSheet$Item" "measure" "I", Cond.fieldLink RX1 19 "TakeoffSheet$Item" "waste" "I", Cond.static yX3_hundredthsRoundedUp, Cond.code yX3_hundredthsRoundedUp cX3_hundredthsRoundedUp 2 (some .long), Cond.constantLong RX3 176 (100), Cond.methodLink RX3 123 yX3_priceOf, Cond.instanceMethod yX3_priceOf]
def wsX3_total_r3 : List Cond := [Cond.selects RX3 yX3_priceOf yX3_priceOf, Cond.code yX3_priceOf cX3_priceOf 2 (some .int), Cond.fieldLink RX3 210 "TakeoffSheet$Rate" "labour" "I", Cond.fieldLink RX3 26 "TakeoffSheet" "prices" "[I", Cond.fieldLink RX3 213 "TakeoffSheet$Rate" "plant" "I", Cond.fieldLink RX3 216 "TakeoffSheet$Rate" "material" "I"]
def wsX3_total : List Cond := .code yX3_total cX3_total 4 (some .long) :: ((wsX3_total_r1 ++ (wsX3_total_r2 ++ wsX3_total_r3)) ++ wsX30 ++ wsJx4a65c0 ++ wsX10 ++ wsX20)
def wsX3_dearest_r1 : List Cond := [Cond.constantLong RX3 167 (-1), Cond.fieldLink RX3 23 "TakeoffSheet" "items" "Ljava/util/ArrayList;", Cond.classLink RX3 143 "TakeoffSheet$Item", Cond.methodLink RX3 135 yX3_itemAt, Cond.instanceMethod yX3_itemAt, Cond.selects RX3 yX3_itemAt yX3_itemAt, Cond.initialized RX3, Cond.code yX3_itemAt cX3_itemAt 2 (some (.object "TakeoffSheet$Item")), Cond.classLink RX3 67 "java/lang/IndexOutOfBoundsException", Cond.initialized "java/lang/IndexOutOfBoundsException", Cond.methodLink RX3 98 yJx4a65c_size_8abf5, Cond.instanceMethod yJx4a65c_size_8abf5, Cond.selects RJx4a65c yJx4a65c_size_8abf5 yJx4a65c_size_8abf5, Cond.initialized RJx4a65c, Cond.code yJx4a65c_size_8abf5 cJx4a65c_size_8abf5 1 (some .int), Cond.fieldLink RJx4a65c 48 "java/util/ArrayList" "size" "I", Cond.methodLink RX3 101 yJx4a65c_get_915e3, Cond.instanceMethod yJx4a65c_get_915e3, Cond.selects RJx4a65c yJx4a65c_get_915e3 yJx4a65c_get_915e3, Cond.code yJx4a65c_get_915e3 cJx4a65c_get_915e3 2 (some (.object "java/lang/Object")), Cond.methodLink RJx4a65c 118 yJ15_checkIndex_7cf53, Cond.static yJ15_checkIndex_7cf53, Cond.initialized RJ15, Cond.code yJ15_checkIndex_7cf53 cJ15_checkIndex_7cf53 2 (some .int)]
def wsX3_dearest_r2 : List Cond := [Cond.methodLink RJ15 105 yJ3_checkIndex_8e157, Cond.static yJ3_checkIndex_8e157, Cond.initialized RJ3, Cond.code yJ3_checkIndex_8e157 cJ3_checkIndex_8e157 3 (some .int), Cond.methodLink RJx4a65c 123 yJx4a65c_elementData_915e3, Cond.instanceMethod yJx4a65c_elementData_915e3, Cond.selects RJx4a65c yJx4a65c_elementData_915e3 yJx4a65c_elementData_915e3, Cond.code yJx4a65c_elementData_915e3 cJx4a65c_elementData_915e3 2 (some (.object "java/lang/Object")), Cond.fieldLink RJx4a65c 9 "java/util/ArrayList" "elementData" "[Ljava/lang/Object;", Cond.methodLink RX3 169 yX1_isLeaf, Cond.instanceMethod yX1_isLeaf, Cond.selects RX1 yX1_isLeaf yX1_isLeaf, Cond.initialized RX1, Cond.code yX1_isLeaf cX1_isLeaf 1 (some .boolean), Cond.fieldLink RX1 15 "TakeoffSheet$Item" "rate" "LTakeoffSheet$Rate;", Cond.methodLink RX3 159 yX1_standsUnder, Cond.instanceMethod yX1_standsUnder, Cond.selects RX1 yX1_standsUnder yX1_standsUnder, Cond.code yX1_standsUnder cX1_standsUnder 3 (some .boolean), Cond.fieldLink RX1 9 "TakeoffSheet$Item" "parent" "LTakeoffSheet$Item;", Cond.methodLink RX3 163 yX3_ownSum, Cond.instanceMethod yX3_ownSum, Cond.selects RX3 yX3_ownSum yX3_ownSum, Cond.code yX3_ownSum cX3_ownSum 2 (some .long)]
def wsX3_dearest_r3 : List Cond := [Cond.fieldLink RX3 219 "TakeoffSheet$Item" "rate" "LTakeoffSheet$Rate;", Cond.fieldLink RX3 150 "TakeoffSheet$Item" "variation" "I", Cond.methodLink RX3 223 Lib.MathLoose.max_long.x, Cond.static Lib.MathLoose.max_long.x, Cond.initialized "java/lang/Math", Cond.code Lib.MathLoose.max_long.x Lib.MathLoose.max_long.code 4 (some .long), Cond.methodLink RX3 155 yX1_measureWithWaste, Cond.instanceMethod yX1_measureWithWaste, Cond.selects RX1 yX1_measureWithWaste yX1_measureWithWaste, Cond.code yX1_measureWithWaste cX1_measureWithWaste 1 (some .long), Cond.fieldLink RX1 23 "TakeoffSheet$Item" "measure" "I", Cond.fieldLink RX1 19 "TakeoffSheet$Item" "waste" "I", Cond.static yX3_hundredthsRoundedUp, Cond.code yX3_hundredthsRoundedUp cX3_hundredthsRoundedUp 2 (some .long), Cond.constantLong RX3 176 (100), Cond.methodLink RX3 123 yX3_priceOf, Cond.instanceMethod yX3_priceOf, Cond.selects RX3 yX3_priceOf yX3_priceOf, Cond.code yX3_priceOf cX3_priceOf 2 (some .int), Cond.fieldLink RX3 210 "TakeoffSheet$Rate" "labour" "I", Cond.fieldLink RX3 26 "TakeoffSheet" "prices" "[I", Cond.fieldLink RX3 213 "TakeoffSheet$Rate" "plant" "I", Cond.fieldLink RX3 216 "TakeoffSheet$Rate" "material" "I"]
def wsX3_dearest : List Cond := .code yX3_dearest cX3_dearest 8 (some .int) :: ((wsX3_dearest_r1 ++ (wsX3_dearest_r2 ++ wsX3_dearest_r3)) ++ wsX30 ++ wsJx4a65c0 ++ wsX10 ++ wsX20 ++ (vx_atS RX3 71 "java/lang/IndexOutOfBoundsException" ["java/lang/RuntimeException", "java/lang/Exception"]).filter goodWord)
def wsX3_done_r1 : List Cond := [Cond.fieldLink RX3 173 "TakeoffSheet$Item" "done" "I", Cond.methodLink RX3 135 yX3_itemAt, Cond.instanceMethod yX3_itemAt, Cond.selects RX3 yX3_itemAt yX3_itemAt, Cond.initialized RX3, Cond.code yX3_itemAt cX3_itemAt 2 (some (.object "TakeoffSheet$Item")), Cond.classLink RX3 67 "java/lang/IndexOutOfBoundsException", Cond.initialized "java/lang/IndexOutOfBoundsException", Cond.fieldLink RX3 23 "TakeoffSheet" "items" "Ljava/util/ArrayList;", Cond.classLink RX3 143 "TakeoffSheet$Item", Cond.methodLink RX3 98 yJx4a65c_size_8abf5, Cond.instanceMethod yJx4a65c_size_8abf5, Cond.selects RJx4a65c yJx4a65c_size_8abf5 yJx4a65c_size_8abf5, Cond.initialized RJx4a65c, Cond.code yJx4a65c_size_8abf5 cJx4a65c_size_8abf5 1 (some .int), Cond.fieldLink RJx4a65c 48 "java/util/ArrayList" "size" "I", Cond.methodLink RX3 101 yJx4a65c_get_915e3, Cond.instanceMethod yJx4a65c_get_915e3, Cond.selects RJx4a65c yJx4a65c_get_915e3 yJx4a65c_get_915e3, Cond.code yJx4a65c_get_915e3 cJx4a65c_get_915e3 2 (some (.object "java/lang/Object")), Cond.methodLink RJx4a65c 118 yJ15_checkIndex_7cf53, Cond.static yJ15_checkIndex_7cf53, Cond.initialized RJ15, Cond.code yJ15_checkIndex_7cf53 cJ15_checkIndex_7cf53 2 (some .int)]
def wsX3_done_r2 : List Cond := [Cond.methodLink RJ15 105 yJ3_checkIndex_8e157, Cond.static yJ3_checkIndex_8e157, Cond.initialized RJ3, Cond.code yJ3_checkIndex_8e157 cJ3_checkIndex_8e157 3 (some .int), Cond.methodLink RJx4a65c 123 yJx4a65c_elementData_915e3, Cond.instanceMethod yJx4a65c_elementData_915e3, Cond.selects RJx4a65c yJx4a65c_elementData_915e3 yJx4a65c_elementData_915e3, Cond.code yJx4a65c_elementData_915e3 cJx4a65c_elementData_915e3 2 (some (.object "java/lang/Object")), Cond.fieldLink RJx4a65c 9 "java/util/ArrayList" "elementData" "[Ljava/lang/Object;", Cond.methodLink RX3 41 yX3_checkRange, Cond.static yX3_checkRange, Cond.code yX3_checkRange cX3_checkRange 3 none, Cond.classLink RX3 190 "java/lang/IllegalArgumentException", Cond.initialized "java/lang/IllegalArgumentException", Cond.methodLink RX3 138 yX3_checkLeaf, Cond.static yX3_checkLeaf, Cond.code yX3_checkLeaf cX3_checkLeaf 1 none, Cond.classLink RX3 56 "java/lang/IllegalStateException", Cond.initialized "java/lang/IllegalStateException", Cond.methodLink RX3 169 yX1_isLeaf, Cond.instanceMethod yX1_isLeaf, Cond.selects RX1 yX1_isLeaf yX1_isLeaf, Cond.initialized RX1, Cond.code yX1_isLeaf cX1_isLeaf 1 (some .boolean)]
def wsX3_done_r3 : List Cond := [Cond.fieldLink RX1 15 "TakeoffSheet$Item" "rate" "LTakeoffSheet$Rate;"]
def wsX3_done : List Cond := .code yX3_done cX3_done 5 (some .int) :: ((wsX3_done_r1 ++ (wsX3_done_r2 ++ wsX3_done_r3)) ++ wsX10 ++ wsX30 ++ wsJx4a65c0 ++ (vx_atS RX3 71 "java/lang/IndexOutOfBoundsException" ["java/lang/RuntimeException", "java/lang/Exception"]).filter goodWord ++ (vx_atS RX3 194 "java/lang/IllegalArgumentException" ["java/lang/RuntimeException", "java/lang/Exception"]).filter goodWord ++ (vx_atS RX3 60 "java/lang/IllegalStateException" ["java/lang/RuntimeException", "java/lang/Exception"]).filter goodWord)
def wsX3_retention : List Cond := .code yX3_retention cX3_retention 3 (some .int) :: ([.fieldLink RX3 34 "TakeoffSheet" "retention" "I", .methodLink RX3 41 yX3_checkRange, .static yX3_checkRange, .initialized RX3, .code yX3_checkRange cX3_checkRange 3 none, .classLink RX3 190 "java/lang/IllegalArgumentException", .initialized "java/lang/IllegalArgumentException"] ++ wsX30 ++ (vx_atS RX3 194 "java/lang/IllegalArgumentException" ["java/lang/RuntimeException", "java/lang/Exception"]).filter goodWord)
def wsX3_worth_r1 : List Cond := [Cond.fieldLink RX3 23 "TakeoffSheet" "items" "Ljava/util/ArrayList;", Cond.classLink RX3 143 "TakeoffSheet$Item", Cond.fieldLink RX3 173 "TakeoffSheet$Item" "done" "I", Cond.constantLong RX3 176 (100), Cond.methodLink RX3 98 yJx4a65c_size_8abf5, Cond.instanceMethod yJx4a65c_size_8abf5, Cond.selects RJx4a65c yJx4a65c_size_8abf5 yJx4a65c_size_8abf5, Cond.initialized RJx4a65c, Cond.code yJx4a65c_size_8abf5 cJx4a65c_size_8abf5 1 (some .int), Cond.fieldLink RJx4a65c 48 "java/util/ArrayList" "size" "I", Cond.methodLink RX3 101 yJx4a65c_get_915e3, Cond.instanceMethod yJx4a65c_get_915e3, Cond.selects RJx4a65c yJx4a65c_get_915e3 yJx4a65c_get_915e3, Cond.code yJx4a65c_get_915e3 cJx4a65c_get_915e3 2 (some (.object "java/lang/Object")), Cond.methodLink RJx4a65c 118 yJ15_checkIndex_7cf53, Cond.static yJ15_checkIndex_7cf53, Cond.initialized RJ15, Cond.code yJ15_checkIndex_7cf53 cJ15_checkIndex_7cf53 2 (some .int), Cond.methodLink RJ15 105 yJ3_checkIndex_8e157, Cond.static yJ3_checkIndex_8e157, Cond.initialized RJ3, Cond.code yJ3_checkIndex_8e157 cJ3_checkIndex_8e157 3 (some .int), Cond.methodLink RJx4a65c 123 yJx4a65c_elementData_915e3, Cond.instanceMethod yJx4a65c_elementData_915e3]
def wsX3_worth_r2 : List Cond := [Cond.selects RJx4a65c yJx4a65c_elementData_915e3 yJx4a65c_elementData_915e3, Cond.code yJx4a65c_elementData_915e3 cJx4a65c_elementData_915e3 2 (some (.object "java/lang/Object")), Cond.fieldLink RJx4a65c 9 "java/util/ArrayList" "elementData" "[Ljava/lang/Object;", Cond.methodLink RX3 163 yX3_ownSum, Cond.instanceMethod yX3_ownSum, Cond.selects RX3 yX3_ownSum yX3_ownSum, Cond.initialized RX3, Cond.code yX3_ownSum cX3_ownSum 2 (some .long), Cond.fieldLink RX3 219 "TakeoffSheet$Item" "rate" "LTakeoffSheet$Rate;", Cond.fieldLink RX3 150 "TakeoffSheet$Item" "variation" "I", Cond.methodLink RX3 223 Lib.MathLoose.max_long.x, Cond.static Lib.MathLoose.max_long.x, Cond.initialized "java/lang/Math", Cond.code Lib.MathLoose.max_long.x Lib.MathLoose.max_long.code 4 (some .long), Cond.methodLink RX3 155 yX1_measureWithWaste, Cond.instanceMethod yX1_measureWithWaste, Cond.selects RX1 yX1_measureWithWaste yX1_measureWithWaste, Cond.initialized RX1, Cond.code yX1_measureWithWaste cX1_measureWithWaste 1 (some .long), Cond.fieldLink RX1 23 "TakeoffSheet$Item" "measure" "I", Cond.fieldLink RX1 19 "TakeoffSheet$Item" "waste" "I", Cond.static yX3_hundredthsRoundedUp, Cond.code yX3_hundredthsRoundedUp cX3_hundredthsRoundedUp 2 (some .long), Cond.methodLink RX3 123 yX3_priceOf]
def wsX3_worth_r3 : List Cond := [Cond.instanceMethod yX3_priceOf, Cond.selects RX3 yX3_priceOf yX3_priceOf, Cond.code yX3_priceOf cX3_priceOf 2 (some .int), Cond.fieldLink RX3 210 "TakeoffSheet$Rate" "labour" "I", Cond.fieldLink RX3 26 "TakeoffSheet" "prices" "[I", Cond.fieldLink RX3 213 "TakeoffSheet$Rate" "plant" "I", Cond.fieldLink RX3 216 "TakeoffSheet$Rate" "material" "I"]
def wsX3_worth : List Cond := .code yX3_worth cX3_worth 5 (some .long) :: ((wsX3_worth_r1 ++ (wsX3_worth_r2 ++ wsX3_worth_r3)) ++ wsX30 ++ wsX10 ++ wsJx4a65c0 ++ wsX20)
def wsX3_due_r1 : List Cond := [Cond.fieldLink RX3 34 "TakeoffSheet" "retention" "I", Cond.methodLink RX3 178 yX3_worth, Cond.instanceMethod yX3_worth, Cond.selects RX3 yX3_worth yX3_worth, Cond.initialized RX3, Cond.code yX3_worth cX3_worth 5 (some .long), Cond.fieldLink RX3 23 "TakeoffSheet" "items" "Ljava/util/ArrayList;", Cond.classLink RX3 143 "TakeoffSheet$Item", Cond.fieldLink RX3 173 "TakeoffSheet$Item" "done" "I", Cond.constantLong RX3 176 (100), Cond.methodLink RX3 98 yJx4a65c_size_8abf5, Cond.instanceMethod yJx4a65c_size_8abf5, Cond.selects RJx4a65c yJx4a65c_size_8abf5 yJx4a65c_size_8abf5, Cond.initialized RJx4a65c, Cond.code yJx4a65c_size_8abf5 cJx4a65c_size_8abf5 1 (some .int), Cond.fieldLink RJx4a65c 48 "java/util/ArrayList" "size" "I", Cond.methodLink RX3 101 yJx4a65c_get_915e3, Cond.instanceMethod yJx4a65c_get_915e3, Cond.selects RJx4a65c yJx4a65c_get_915e3 yJx4a65c_get_915e3, Cond.code yJx4a65c_get_915e3 cJx4a65c_get_915e3 2 (some (.object "java/lang/Object")), Cond.methodLink RJx4a65c 118 yJ15_checkIndex_7cf53, Cond.static yJ15_checkIndex_7cf53, Cond.initialized RJ15, Cond.code yJ15_checkIndex_7cf53 cJ15_checkIndex_7cf53 2 (some .int)]
def wsX3_due_r2 : List Cond := [Cond.methodLink RJ15 105 yJ3_checkIndex_8e157, Cond.static yJ3_checkIndex_8e157, Cond.initialized RJ3, Cond.code yJ3_checkIndex_8e157 cJ3_checkIndex_8e157 3 (some .int), Cond.methodLink RJx4a65c 123 yJx4a65c_elementData_915e3, Cond.instanceMethod yJx4a65c_elementData_915e3, Cond.selects RJx4a65c yJx4a65c_elementData_915e3 yJx4a65c_elementData_915e3, Cond.code yJx4a65c_elementData_915e3 cJx4a65c_elementData_915e3 2 (some (.object "java/lang/Object")), Cond.fieldLink RJx4a65c 9 "java/util/ArrayList" "elementData" "[Ljava/lang/Object;", Cond.methodLink RX3 163 yX3_ownSum, Cond.instanceMethod yX3_ownSum, Cond.selects RX3 yX3_ownSum yX3_ownSum, Cond.code yX3_ownSum cX3_ownSum 2 (some .long), Cond.fieldLink RX3 219 "TakeoffSheet$Item" "rate" "LTakeoffSheet$Rate;", Cond.fieldLink RX3 150 "TakeoffSheet$Item" "variation" "I", Cond.methodLink RX3 223 Lib.MathLoose.max_long.x, Cond.static Lib.MathLoose.max_long.x, Cond.initialized "java/lang/Math", Cond.code Lib.MathLoose.max_long.x Lib.MathLoose.max_long.code 4 (some .long), Cond.methodLink RX3 155 yX1_measureWithWaste, Cond.instanceMethod yX1_measureWithWaste, Cond.selects RX1 yX1_measureWithWaste yX1_measureWithWaste, Cond.initialized RX1, Cond.code yX1_measureWithWaste cX1_measureWithWaste 1 (some .long)]
def wsX3_due_r3 : List Cond := [Cond.fieldLink RX1 23 "TakeoffSheet$Item" "measure" "I", Cond.fieldLink RX1 19 "TakeoffSheet$Item" "waste" "I", Cond.static yX3_hundredthsRoundedUp, Cond.code yX3_hundredthsRoundedUp cX3_hundredthsRoundedUp 2 (some .long), Cond.methodLink RX3 123 yX3_priceOf, Cond.instanceMethod yX3_priceOf, Cond.selects RX3 yX3_priceOf yX3_priceOf, Cond.code yX3_priceOf cX3_priceOf 2 (some .int), Cond.fieldLink RX3 210 "TakeoffSheet$Rate" "labour" "I", Cond.fieldLink RX3 26 "TakeoffSheet" "prices" "[I", Cond.fieldLink RX3 213 "TakeoffSheet$Rate" "plant" "I", Cond.fieldLink RX3 216 "TakeoffSheet$Rate" "material" "I", Cond.methodLink RX3 181 yX3_hundredthsRoundedUp]
def wsX3_due : List Cond := .code yX3_due cX3_due 3 (some .long) :: ((wsX3_due_r1 ++ (wsX3_due_r2 ++ wsX3_due_r3)) ++ wsX30 ++ wsX10 ++ wsJx4a65c0 ++ wsX20)
def wsX3_claim_r1 : List Cond := [Cond.classLink RX3 56 "java/lang/IllegalStateException", Cond.initialized "java/lang/IllegalStateException", Cond.fieldLink RX3 37 "TakeoffSheet" "claimed" "J", Cond.methodLink RX3 185 yX3_due, Cond.instanceMethod yX3_due, Cond.selects RX3 yX3_due yX3_due, Cond.initialized RX3, Cond.code yX3_due cX3_due 3 (some .long), Cond.fieldLink RX3 34 "TakeoffSheet" "retention" "I", Cond.methodLink RX3 178 yX3_worth, Cond.instanceMethod yX3_worth, Cond.selects RX3 yX3_worth yX3_worth, Cond.code yX3_worth cX3_worth 5 (some .long), Cond.fieldLink RX3 23 "TakeoffSheet" "items" "Ljava/util/ArrayList;", Cond.classLink RX3 143 "TakeoffSheet$Item", Cond.fieldLink RX3 173 "TakeoffSheet$Item" "done" "I", Cond.constantLong RX3 176 (100), Cond.methodLink RX3 98 yJx4a65c_size_8abf5, Cond.instanceMethod yJx4a65c_size_8abf5, Cond.selects RJx4a65c yJx4a65c_size_8abf5 yJx4a65c_size_8abf5, Cond.initialized RJx4a65c, Cond.code yJx4a65c_size_8abf5 cJx4a65c_size_8abf5 1 (some .int), Cond.fieldLink RJx4a65c 48 "java/util/ArrayList" "size" "I", Cond.methodLink RX3 101 yJx4a65c_get_915e3]
def wsX3_claim_r2 : List Cond := [Cond.instanceMethod yJx4a65c_get_915e3, Cond.selects RJx4a65c yJx4a65c_get_915e3 yJx4a65c_get_915e3, Cond.code yJx4a65c_get_915e3 cJx4a65c_get_915e3 2 (some (.object "java/lang/Object")), Cond.methodLink RJx4a65c 118 yJ15_checkIndex_7cf53, Cond.static yJ15_checkIndex_7cf53, Cond.initialized RJ15, Cond.code yJ15_checkIndex_7cf53 cJ15_checkIndex_7cf53 2 (some .int), Cond.methodLink RJ15 105 yJ3_checkIndex_8e157, Cond.static yJ3_checkIndex_8e157, Cond.initialized RJ3, Cond.code yJ3_checkIndex_8e157 cJ3_checkIndex_8e157 3 (some .int), Cond.methodLink RJx4a65c 123 yJx4a65c_elementData_915e3, Cond.instanceMethod yJx4a65c_elementData_915e3, Cond.selects RJx4a65c yJx4a65c_elementData_915e3 yJx4a65c_elementData_915e3, Cond.code yJx4a65c_elementData_915e3 cJx4a65c_elementData_915e3 2 (some (.object "java/lang/Object")), Cond.fieldLink RJx4a65c 9 "java/util/ArrayList" "elementData" "[Ljava/lang/Object;", Cond.methodLink RX3 163 yX3_ownSum, Cond.instanceMethod yX3_ownSum, Cond.selects RX3 yX3_ownSum yX3_ownSum, Cond.code yX3_ownSum cX3_ownSum 2 (some .long), Cond.fieldLink RX3 219 "TakeoffSheet$Item" "rate" "LTakeoffSheet$Rate;", Cond.fieldLink RX3 150 "TakeoffSheet$Item" "variation" "I", Cond.methodLink RX3 223 Lib.MathLoose.max_long.x, Cond.static Lib.MathLoose.max_long.x]
def wsX3_claim_r3 : List Cond := [Cond.initialized "java/lang/Math", Cond.code Lib.MathLoose.max_long.x Lib.MathLoose.max_long.code 4 (some .long), Cond.methodLink RX3 155 yX1_measureWithWaste, Cond.instanceMethod yX1_measureWithWaste, Cond.selects RX1 yX1_measureWithWaste yX1_measureWithWaste, Cond.initialized RX1, Cond.code yX1_measureWithWaste cX1_measureWithWaste 1 (some .long), Cond.fieldLink RX1 23 "TakeoffSheet$Item" "measure" "I", Cond.fieldLink RX1 19 "TakeoffSheet$Item" "waste" "I", Cond.static yX3_hundredthsRoundedUp, Cond.code yX3_hundredthsRoundedUp cX3_hundredthsRoundedUp 2 (some .long), Cond.methodLink RX3 123 yX3_priceOf, Cond.instanceMethod yX3_priceOf, Cond.selects RX3 yX3_priceOf yX3_priceOf, Cond.code yX3_priceOf cX3_priceOf 2 (some .int), Cond.fieldLink RX3 210 "TakeoffSheet$Rate" "labour" "I", Cond.fieldLink RX3 26 "TakeoffSheet" "prices" "[I", Cond.fieldLink RX3 213 "TakeoffSheet$Rate" "plant" "I", Cond.fieldLink RX3 216 "TakeoffSheet$Rate" "material" "I", Cond.methodLink RX3 181 yX3_hundredthsRoundedUp]
def wsX3_claim : List Cond := .code yX3_claim cX3_claim 3 (some .long) :: ((wsX3_claim_r1 ++ (wsX3_claim_r2 ++ wsX3_claim_r3)) ++ wsX30 ++ wsX10 ++ wsJx4a65c0 ++ wsX20 ++ (vx_atS RX3 60 "java/lang/IllegalStateException" ["java/lang/RuntimeException", "java/lang/Exception"]).filter goodWord)
def wsX3_claimed : List Cond := .code yX3_claimed cX3_claimed 1 (some .long) :: ([.fieldLink RX3 37 "TakeoffSheet" "claimed" "J"] ++ wsX30)
def wsX4_init : List Cond := .code yX4_init cX4_init 1 none :: ([.methodLink RX4 1 objectInit, .instanceMethod objectInit, .code objectInit ⟨#[0xb1]⟩ 1 none, .arrayClass .boolean, .fieldLink RX4 7 "TakeoffSheetModel" "marks" "[Z", .arrayClass .int, .fieldLink RX4 13 "TakeoffSheetModel" "holes" "[I", .fieldLink RX4 17 "TakeoffSheetModel" "limit" "I", .fieldLink RX4 21 "TakeoffSheetModel" "amounts" "[I", .fieldLink RX4 24 "TakeoffSheetModel" "prices" "[I", .fieldLink RX4 27 "TakeoffSheetModel" "parents" "[I", .fieldLink RX4 30 "TakeoffSheetModel" "rateOf" "[I", .fieldLink RX4 33 "TakeoffSheetModel" "wastes" "[I", .fieldLink RX4 36 "TakeoffSheetModel" "measures" "[I", .fieldLink RX4 39 "TakeoffSheetModel" "variations" "[I", .fieldLink RX4 42 "TakeoffSheetModel" "dones" "[I", .arrayClass .long, .fieldLink RX4 45 "TakeoffSheetModel" "sums" "[J", .fieldLink RX4 49 "TakeoffSheetModel" "retention" "I"] ++ wsX40)
def wsX4_thrown : List Cond := .code yX4_thrown cX4_thrown 1 (some .int) :: ([.fieldLink RX4 52 "TakeoffSheetModel" "last" "I"] ++ wsX40)
def wsX4_in : List Cond := .code yX4_in cX4_in 3 (some .boolean) :: ([])
def wsX4_goes : List Cond := .code yX4_goes cX4_goes 4 (some .boolean) :: ([.fieldLink RX4 52 "TakeoffSheetModel" "last" "I"] ++ wsX40)
def wsX4_isItem : List Cond := .code yX4_isItem cX4_isItem 2 (some .boolean) :: ([.fieldLink RX4 55 "TakeoffSheetModel" "items" "I", .methodLink RX4 58 yX4_in, .static yX4_in, .initialized RX4, .code yX4_in cX4_in 3 (some .boolean)] ++ wsX40)
def wsX4_isHeading : List Cond := .code yX4_isHeading cX4_isHeading 2 (some .boolean) :: ([.fieldLink RX4 30 "TakeoffSheetModel" "rateOf" "[I"] ++ wsX40)
def wsX4_isRate : List Cond := .code yX4_isRate cX4_isRate 2 (some .boolean) :: ([.fieldLink RX4 62 "TakeoffSheetModel" "rates" "I", .methodLink RX4 58 yX4_in, .static yX4_in, .initialized RX4, .code yX4_in cX4_in 3 (some .boolean)] ++ wsX40)
def wsX4_begin : List Cond := .code yX4_begin cX4_begin 4 none :: ([.fieldLink RX4 7 "TakeoffSheetModel" "marks" "[Z", .fieldLink RX4 69 "TakeoffSheetModel" "drawn" "Z", .fieldLink RX4 73 "TakeoffSheetModel" "closed" "Z", .fieldLink RX4 76 "TakeoffSheetModel" "beginX" "I", .fieldLink RX4 79 "TakeoffSheetModel" "beginY" "I", .fieldLink RX4 82 "TakeoffSheetModel" "x" "I", .fieldLink RX4 85 "TakeoffSheetModel" "y" "I", .fieldLink RX4 88 "TakeoffSheetModel" "others" "I", .fieldLink RX4 91 "TakeoffSheetModel" "twice" "I", .fieldLink RX4 94 "TakeoffSheetModel" "openings" "I", .methodLink RX4 58 yX4_in, .static yX4_in, .initialized RX4, .code yX4_in cX4_in 3 (some .boolean), .methodLink RX4 65 yX4_goes, .instanceMethod yX4_goes, .selects RX4 yX4_goes yX4_goes, .code yX4_goes cX4_goes 4 (some .boolean), .fieldLink RX4 52 "TakeoffSheetModel" "last" "I"] ++ wsX40)
def wsX4_canGo : List Cond := .code yX4_canGo cX4_canGo 9 (some .boolean) :: ([.fieldLink RX4 82 "TakeoffSheetModel" "x" "I", .fieldLink RX4 85 "TakeoffSheetModel" "y" "I", .fieldLink RX4 76 "TakeoffSheetModel" "beginX" "I", .fieldLink RX4 79 "TakeoffSheetModel" "beginY" "I", .fieldLink RX4 88 "TakeoffSheetModel" "others" "I", .fieldLink RX4 7 "TakeoffSheetModel" "marks" "[Z", .methodLink RX4 58 yX4_in, .static yX4_in, .initialized RX4, .code yX4_in cX4_in 3 (some .boolean)] ++ wsX40)
def wsX4_wall : List Cond := .code yX4_wall cX4_wall 9 (some .boolean) :: ([.fieldLink RX4 69 "TakeoffSheetModel" "drawn" "Z", .fieldLink RX4 73 "TakeoffSheetModel" "closed" "Z", .fieldLink RX4 82 "TakeoffSheetModel" "x" "I", .fieldLink RX4 85 "TakeoffSheetModel" "y" "I", .fieldLink RX4 7 "TakeoffSheetModel" "marks" "[Z", .fieldLink RX4 88 "TakeoffSheetModel" "others" "I", .fieldLink RX4 91 "TakeoffSheetModel" "twice" "I", .methodLink RX4 58 yX4_in, .static yX4_in, .initialized RX4, .code yX4_in cX4_in 3 (some .boolean), .methodLink RX4 97 yX4_canGo, .instanceMethod yX4_canGo, .selects RX4 yX4_canGo yX4_canGo, .code yX4_canGo cX4_canGo 9 (some .boolean), .fieldLink RX4 76 "TakeoffSheetModel" "beginX" "I", .fieldLink RX4 79 "TakeoffSheetModel" "beginY" "I", .methodLink RX4 65 yX4_goes, .instanceMethod yX4_goes, .selects RX4 yX4_goes yX4_goes, .code yX4_goes cX4_goes 4 (some .boolean), .fieldLink RX4 52 "TakeoffSheetModel" "last" "I"] ++ wsX40)
def wsX4_opening : List Cond := .code yX4_opening cX4_opening 4 (some .int) :: ([.fieldLink RX4 69 "TakeoffSheetModel" "drawn" "Z", .fieldLink RX4 73 "TakeoffSheetModel" "closed" "Z", .fieldLink RX4 94 "TakeoffSheetModel" "openings" "I", .fieldLink RX4 13 "TakeoffSheetModel" "holes" "[I", .methodLink RX4 58 yX4_in, .static yX4_in, .initialized RX4, .code yX4_in cX4_in 3 (some .boolean), .methodLink RX4 65 yX4_goes, .instanceMethod yX4_goes, .selects RX4 yX4_goes yX4_goes, .code yX4_goes cX4_goes 4 (some .boolean), .fieldLink RX4 52 "TakeoffSheetModel" "last" "I"] ++ wsX40)
def wsX4_limit : List Cond := .code yX4_limit cX4_limit 3 (some .int) :: ([.fieldLink RX4 17 "TakeoffSheetModel" "limit" "I", .methodLink RX4 58 yX4_in, .static yX4_in, .initialized RX4, .code yX4_in cX4_in 3 (some .boolean), .methodLink RX4 65 yX4_goes, .instanceMethod yX4_goes, .selects RX4 yX4_goes yX4_goes, .code yX4_goes cX4_goes 4 (some .boolean), .fieldLink RX4 52 "TakeoffSheetModel" "last" "I"] ++ wsX40)
def wsX4_whole : List Cond := .code yX4_whole cX4_whole 1 (some .int) :: ([.fieldLink RX4 91 "TakeoffSheetModel" "twice" "I"] ++ wsX40)
def wsX4_net : List Cond := .code yX4_net cX4_net 3 (some .int) :: ([.fieldLink RX4 94 "TakeoffSheetModel" "openings" "I", .fieldLink RX4 13 "TakeoffSheetModel" "holes" "[I", .fieldLink RX4 17 "TakeoffSheetModel" "limit" "I", .methodLink RX4 100 yX4_whole, .instanceMethod yX4_whole, .selects RX4 yX4_whole yX4_whole, .initialized RX4, .code yX4_whole cX4_whole 1 (some .int), .fieldLink RX4 91 "TakeoffSheetModel" "twice" "I"] ++ wsX40)
def wsX4_area : List Cond := .code yX4_area cX4_area 1 (some .int) :: ([.fieldLink RX4 69 "TakeoffSheetModel" "drawn" "Z", .fieldLink RX4 73 "TakeoffSheetModel" "closed" "Z", .methodLink RX4 65 yX4_goes, .instanceMethod yX4_goes, .selects RX4 yX4_goes yX4_goes, .initialized RX4, .code yX4_goes cX4_goes 4 (some .boolean), .fieldLink RX4 52 "TakeoffSheetModel" "last" "I", .methodLink RX4 100 yX4_whole, .instanceMethod yX4_whole, .selects RX4 yX4_whole yX4_whole, .code yX4_whole cX4_whole 1 (some .int), .fieldLink RX4 91 "TakeoffSheetModel" "twice" "I"] ++ wsX40)
def wsX4_areaByStrips : List Cond := .code yX4_areaByStrips cX4_areaByStrips 1 (some .int) :: ([.methodLink RX4 104 yX4_area, .instanceMethod yX4_area, .selects RX4 yX4_area yX4_area, .initialized RX4, .code yX4_area cX4_area 1 (some .int), .fieldLink RX4 69 "TakeoffSheetModel" "drawn" "Z", .fieldLink RX4 73 "TakeoffSheetModel" "closed" "Z", .methodLink RX4 65 yX4_goes, .instanceMethod yX4_goes, .selects RX4 yX4_goes yX4_goes, .code yX4_goes cX4_goes 4 (some .boolean), .fieldLink RX4 52 "TakeoffSheetModel" "last" "I", .methodLink RX4 100 yX4_whole, .instanceMethod yX4_whole, .selects RX4 yX4_whole yX4_whole, .code yX4_whole cX4_whole 1 (some .int), .fieldLink RX4 91 "TakeoffSheetModel" "twice" "I"] ++ wsX40)
def wsX4_netArea : List Cond := .code yX4_netArea cX4_netArea 1 (some .int) :: ([.fieldLink RX4 69 "TakeoffSheetModel" "drawn" "Z", .fieldLink RX4 73 "TakeoffSheetModel" "closed" "Z", .methodLink RX4 65 yX4_goes, .instanceMethod yX4_goes, .selects RX4 yX4_goes yX4_goes, .initialized RX4, .code yX4_goes cX4_goes 4 (some .boolean), .fieldLink RX4 52 "TakeoffSheetModel" "last" "I", .methodLink RX4 107 yX4_net, .instanceMethod yX4_net, .selects RX4 yX4_net yX4_net, .code yX4_net cX4_net 3 (some .int), .fieldLink RX4 94 "TakeoffSheetModel" "openings" "I", .fieldLink RX4 13 "TakeoffSheetModel" "holes" "[I", .fieldLink RX4 17 "TakeoffSheetModel" "limit" "I", .methodLink RX4 100 yX4_whole, .instanceMethod yX4_whole, .selects RX4 yX4_whole yX4_whole, .code yX4_whole cX4_whole 1 (some .int), .fieldLink RX4 91 "TakeoffSheetModel" "twice" "I"] ++ wsX40)
def wsX4_rate : List Cond := .code yX4_rate cX4_rate 7 (some .int) :: ([.fieldLink RX4 62 "TakeoffSheetModel" "rates" "I", .fieldLink RX4 21 "TakeoffSheetModel" "amounts" "[I", .methodLink RX4 58 yX4_in, .static yX4_in, .initialized RX4, .code yX4_in cX4_in 3 (some .boolean), .methodLink RX4 65 yX4_goes, .instanceMethod yX4_goes, .selects RX4 yX4_goes yX4_goes, .code yX4_goes cX4_goes 4 (some .boolean), .fieldLink RX4 52 "TakeoffSheetModel" "last" "I"] ++ wsX40)
def wsX4_price : List Cond := .code yX4_price cX4_price 4 (some .int) :: ([.fieldLink RX4 24 "TakeoffSheetModel" "prices" "[I", .methodLink RX4 58 yX4_in, .static yX4_in, .initialized RX4, .code yX4_in cX4_in 3 (some .boolean), .methodLink RX4 65 yX4_goes, .instanceMethod yX4_goes, .selects RX4 yX4_goes yX4_goes, .code yX4_goes cX4_goes 4 (some .boolean), .fieldLink RX4 52 "TakeoffSheetModel" "last" "I"] ++ wsX40)
def wsX4_cents : List Cond := .code yX4_cents cX4_cents 2 (some .int) :: ([.fieldLink RX4 21 "TakeoffSheetModel" "amounts" "[I", .fieldLink RX4 24 "TakeoffSheetModel" "prices" "[I"] ++ wsX40)
def wsX4_rateOf : List Cond := .code yX4_rateOf cX4_rateOf 2 (some .int) :: ([.methodLink RX4 110 yX4_isRate, .instanceMethod yX4_isRate, .selects RX4 yX4_isRate yX4_isRate, .initialized RX4, .code yX4_isRate cX4_isRate 2 (some .boolean), .fieldLink RX4 62 "TakeoffSheetModel" "rates" "I", .methodLink RX4 58 yX4_in, .static yX4_in, .code yX4_in cX4_in 3 (some .boolean), .methodLink RX4 65 yX4_goes, .instanceMethod yX4_goes, .selects RX4 yX4_goes yX4_goes, .code yX4_goes cX4_goes 4 (some .boolean), .fieldLink RX4 52 "TakeoffSheetModel" "last" "I", .methodLink RX4 114 yX4_cents, .instanceMethod yX4_cents, .selects RX4 yX4_cents yX4_cents, .code yX4_cents cX4_cents 2 (some .int), .fieldLink RX4 21 "TakeoffSheetModel" "amounts" "[I", .fieldLink RX4 24 "TakeoffSheetModel" "prices" "[I"] ++ wsX40)
def wsX4_isLeaf : List Cond := .code yX4_isLeaf cX4_isLeaf 2 (some .boolean) :: ([.methodLink RX4 118 yX4_isHeading, .instanceMethod yX4_isHeading, .selects RX4 yX4_isHeading yX4_isHeading, .initialized RX4, .code yX4_isHeading cX4_isHeading 2 (some .boolean), .fieldLink RX4 30 "TakeoffSheetModel" "rateOf" "[I"] ++ wsX40)
def wsX4_adds : List Cond := .code yX4_adds cX4_adds 4 (some .int) :: ([.fieldLink RX4 27 "TakeoffSheetModel" "parents" "[I", .fieldLink RX4 55 "TakeoffSheetModel" "items" "I", .fieldLink RX4 30 "TakeoffSheetModel" "rateOf" "[I", .fieldLink RX4 33 "TakeoffSheetModel" "wastes" "[I"] ++ wsX40)
def wsX4_heading_r1 : List Cond := [Cond.fieldLink RX4 55 "TakeoffSheetModel" "items" "I", Cond.methodLink RX4 121 yX4_isItem, Cond.instanceMethod yX4_isItem, Cond.selects RX4 yX4_isItem yX4_isItem, Cond.initialized RX4, Cond.code yX4_isItem cX4_isItem 2 (some .boolean), Cond.methodLink RX4 58 yX4_in, Cond.static yX4_in, Cond.code yX4_in cX4_in 3 (some .boolean), Cond.methodLink RX4 124 yX4_isLeaf, Cond.instanceMethod yX4_isLeaf, Cond.selects RX4 yX4_isLeaf yX4_isLeaf, Cond.code yX4_isLeaf cX4_isLeaf 2 (some .boolean), Cond.methodLink RX4 118 yX4_isHeading, Cond.instanceMethod yX4_isHeading, Cond.selects RX4 yX4_isHeading yX4_isHeading, Cond.code yX4_isHeading cX4_isHeading 2 (some .boolean), Cond.fieldLink RX4 30 "TakeoffSheetModel" "rateOf" "[I", Cond.methodLink RX4 65 yX4_goes, Cond.instanceMethod yX4_goes, Cond.selects RX4 yX4_goes yX4_goes, Cond.code yX4_goes cX4_goes 4 (some .boolean), Cond.fieldLink RX4 52 "TakeoffSheetModel" "last" "I", Cond.methodLink RX4 127 yX4_adds]
def wsX4_heading_r2 : List Cond := [Cond.instanceMethod yX4_adds, Cond.selects RX4 yX4_adds yX4_adds, Cond.code yX4_adds cX4_adds 4 (some .int), Cond.fieldLink RX4 27 "TakeoffSheetModel" "parents" "[I", Cond.fieldLink RX4 33 "TakeoffSheetModel" "wastes" "[I"]
def wsX4_heading : List Cond := .code yX4_heading cX4_heading 3 (some .int) :: ((wsX4_heading_r1 ++ wsX4_heading_r2) ++ wsX40)
def wsX4_leaf_r1 : List Cond := [Cond.fieldLink RX4 55 "TakeoffSheetModel" "items" "I", Cond.methodLink RX4 121 yX4_isItem, Cond.instanceMethod yX4_isItem, Cond.selects RX4 yX4_isItem yX4_isItem, Cond.initialized RX4, Cond.code yX4_isItem cX4_isItem 2 (some .boolean), Cond.methodLink RX4 58 yX4_in, Cond.static yX4_in, Cond.code yX4_in cX4_in 3 (some .boolean), Cond.methodLink RX4 110 yX4_isRate, Cond.instanceMethod yX4_isRate, Cond.selects RX4 yX4_isRate yX4_isRate, Cond.code yX4_isRate cX4_isRate 2 (some .boolean), Cond.fieldLink RX4 62 "TakeoffSheetModel" "rates" "I", Cond.methodLink RX4 124 yX4_isLeaf, Cond.instanceMethod yX4_isLeaf, Cond.selects RX4 yX4_isLeaf yX4_isLeaf, Cond.code yX4_isLeaf cX4_isLeaf 2 (some .boolean), Cond.methodLink RX4 118 yX4_isHeading, Cond.instanceMethod yX4_isHeading, Cond.selects RX4 yX4_isHeading yX4_isHeading, Cond.code yX4_isHeading cX4_isHeading 2 (some .boolean), Cond.fieldLink RX4 30 "TakeoffSheetModel" "rateOf" "[I", Cond.methodLink RX4 65 yX4_goes]
def wsX4_leaf_r2 : List Cond := [Cond.instanceMethod yX4_goes, Cond.selects RX4 yX4_goes yX4_goes, Cond.code yX4_goes cX4_goes 4 (some .boolean), Cond.fieldLink RX4 52 "TakeoffSheetModel" "last" "I", Cond.methodLink RX4 127 yX4_adds, Cond.instanceMethod yX4_adds, Cond.selects RX4 yX4_adds yX4_adds, Cond.code yX4_adds cX4_adds 4 (some .int), Cond.fieldLink RX4 27 "TakeoffSheetModel" "parents" "[I", Cond.fieldLink RX4 33 "TakeoffSheetModel" "wastes" "[I"]
def wsX4_leaf : List Cond := .code yX4_leaf cX4_leaf 6 (some .int) :: ((wsX4_leaf_r1 ++ wsX4_leaf_r2) ++ wsX40)
def wsX4_items : List Cond := .code yX4_items cX4_items 1 (some .int) :: ([.fieldLink RX4 52 "TakeoffSheetModel" "last" "I", .fieldLink RX4 55 "TakeoffSheetModel" "items" "I"] ++ wsX40)
def wsX4_take_r1 : List Cond := [Cond.fieldLink RX4 69 "TakeoffSheetModel" "drawn" "Z", Cond.fieldLink RX4 73 "TakeoffSheetModel" "closed" "Z", Cond.fieldLink RX4 36 "TakeoffSheetModel" "measures" "[I", Cond.methodLink RX4 121 yX4_isItem, Cond.instanceMethod yX4_isItem, Cond.selects RX4 yX4_isItem yX4_isItem, Cond.initialized RX4, Cond.code yX4_isItem cX4_isItem 2 (some .boolean), Cond.fieldLink RX4 55 "TakeoffSheetModel" "items" "I", Cond.methodLink RX4 58 yX4_in, Cond.static yX4_in, Cond.code yX4_in cX4_in 3 (some .boolean), Cond.methodLink RX4 118 yX4_isHeading, Cond.instanceMethod yX4_isHeading, Cond.selects RX4 yX4_isHeading yX4_isHeading, Cond.code yX4_isHeading cX4_isHeading 2 (some .boolean), Cond.fieldLink RX4 30 "TakeoffSheetModel" "rateOf" "[I", Cond.methodLink RX4 65 yX4_goes, Cond.instanceMethod yX4_goes, Cond.selects RX4 yX4_goes yX4_goes, Cond.code yX4_goes cX4_goes 4 (some .boolean), Cond.fieldLink RX4 52 "TakeoffSheetModel" "last" "I", Cond.methodLink RX4 107 yX4_net, Cond.instanceMethod yX4_net]
def wsX4_take_r2 : List Cond := [Cond.selects RX4 yX4_net yX4_net, Cond.code yX4_net cX4_net 3 (some .int), Cond.fieldLink RX4 94 "TakeoffSheetModel" "openings" "I", Cond.fieldLink RX4 13 "TakeoffSheetModel" "holes" "[I", Cond.fieldLink RX4 17 "TakeoffSheetModel" "limit" "I", Cond.methodLink RX4 100 yX4_whole, Cond.instanceMethod yX4_whole, Cond.selects RX4 yX4_whole yX4_whole, Cond.code yX4_whole cX4_whole 1 (some .int), Cond.fieldLink RX4 91 "TakeoffSheetModel" "twice" "I"]
def wsX4_take : List Cond := .code yX4_take cX4_take 4 (some .int) :: ((wsX4_take_r1 ++ wsX4_take_r2) ++ wsX40)
def wsX4_vary : List Cond := .code yX4_vary cX4_vary 5 (some .int) :: ([.fieldLink RX4 39 "TakeoffSheetModel" "variations" "[I", .methodLink RX4 121 yX4_isItem, .instanceMethod yX4_isItem, .selects RX4 yX4_isItem yX4_isItem, .initialized RX4, .code yX4_isItem cX4_isItem 2 (some .boolean), .fieldLink RX4 55 "TakeoffSheetModel" "items" "I", .methodLink RX4 58 yX4_in, .static yX4_in, .code yX4_in cX4_in 3 (some .boolean), .methodLink RX4 118 yX4_isHeading, .instanceMethod yX4_isHeading, .selects RX4 yX4_isHeading yX4_isHeading, .code yX4_isHeading cX4_isHeading 2 (some .boolean), .fieldLink RX4 30 "TakeoffSheetModel" "rateOf" "[I", .methodLink RX4 65 yX4_goes, .instanceMethod yX4_goes, .selects RX4 yX4_goes yX4_goes, .code yX4_goes cX4_goes 4 (some .boolean), .fieldLink RX4 52 "TakeoffSheetModel" "last" "I"] ++ wsX40)
def wsX4_quantities : List Cond := .code yX4_quantities cX4_quantities 2 (some .int) :: ([.fieldLink RX4 36 "TakeoffSheetModel" "measures" "[I", .fieldLink RX4 33 "TakeoffSheetModel" "wastes" "[I", .constantLong RX4 131 (99), .constantLong RX4 133 (100)] ++ wsX40)
def wsX4_quantity_r1 : List Cond := [Cond.methodLink RX4 121 yX4_isItem, Cond.instanceMethod yX4_isItem, Cond.selects RX4 yX4_isItem yX4_isItem, Cond.initialized RX4, Cond.code yX4_isItem cX4_isItem 2 (some .boolean), Cond.fieldLink RX4 55 "TakeoffSheetModel" "items" "I", Cond.methodLink RX4 58 yX4_in, Cond.static yX4_in, Cond.code yX4_in cX4_in 3 (some .boolean), Cond.methodLink RX4 118 yX4_isHeading, Cond.instanceMethod yX4_isHeading, Cond.selects RX4 yX4_isHeading yX4_isHeading, Cond.code yX4_isHeading cX4_isHeading 2 (some .boolean), Cond.fieldLink RX4 30 "TakeoffSheetModel" "rateOf" "[I", Cond.methodLink RX4 65 yX4_goes, Cond.instanceMethod yX4_goes, Cond.selects RX4 yX4_goes yX4_goes, Cond.code yX4_goes cX4_goes 4 (some .boolean), Cond.fieldLink RX4 52 "TakeoffSheetModel" "last" "I", Cond.methodLink RX4 135 yX4_quantities, Cond.instanceMethod yX4_quantities, Cond.selects RX4 yX4_quantities yX4_quantities, Cond.code yX4_quantities cX4_quantities 2 (some .int), Cond.fieldLink RX4 36 "TakeoffSheetModel" "measures" "[I"]
def wsX4_quantity_r2 : List Cond := [Cond.fieldLink RX4 33 "TakeoffSheetModel" "wastes" "[I", Cond.constantLong RX4 131 (99), Cond.constantLong RX4 133 (100)]
def wsX4_quantity : List Cond := .code yX4_quantity cX4_quantity 3 (some .int) :: ((wsX4_quantity_r1 ++ wsX4_quantity_r2) ++ wsX40)
def wsX4_fills : List Cond := .code yX4_fills cX4_fills 4 none :: ([.fieldLink RX4 55 "TakeoffSheetModel" "items" "I", .fieldLink RX4 45 "TakeoffSheetModel" "sums" "[J", .fieldLink RX4 39 "TakeoffSheetModel" "variations" "[I", .fieldLink RX4 30 "TakeoffSheetModel" "rateOf" "[I", .fieldLink RX4 27 "TakeoffSheetModel" "parents" "[I", .methodLink RX4 118 yX4_isHeading, .instanceMethod yX4_isHeading, .selects RX4 yX4_isHeading yX4_isHeading, .initialized RX4, .code yX4_isHeading cX4_isHeading 2 (some .boolean), .methodLink RX4 135 yX4_quantities, .instanceMethod yX4_quantities, .selects RX4 yX4_quantities yX4_quantities, .code yX4_quantities cX4_quantities 2 (some .int), .fieldLink RX4 36 "TakeoffSheetModel" "measures" "[I", .fieldLink RX4 33 "TakeoffSheetModel" "wastes" "[I", .constantLong RX4 131 (99), .constantLong RX4 133 (100), .methodLink RX4 114 yX4_cents, .instanceMethod yX4_cents, .selects RX4 yX4_cents yX4_cents, .code yX4_cents cX4_cents 2 (some .int), .fieldLink RX4 21 "TakeoffSheetModel" "amounts" "[I", .fieldLink RX4 24 "TakeoffSheetModel" "prices" "[I"] ++ wsX40)
def wsX4_sum_r1 : List Cond := [Cond.fieldLink RX4 45 "TakeoffSheetModel" "sums" "[J", Cond.methodLink RX4 121 yX4_isItem, Cond.instanceMethod yX4_isItem, Cond.selects RX4 yX4_isItem yX4_isItem, Cond.initialized RX4, Cond.code yX4_isItem cX4_isItem 2 (some .boolean), Cond.fieldLink RX4 55 "TakeoffSheetModel" "items" "I", Cond.methodLink RX4 58 yX4_in, Cond.static yX4_in, Cond.code yX4_in cX4_in 3 (some .boolean), Cond.methodLink RX4 65 yX4_goes, Cond.instanceMethod yX4_goes, Cond.selects RX4 yX4_goes yX4_goes, Cond.code yX4_goes cX4_goes 4 (some .boolean), Cond.fieldLink RX4 52 "TakeoffSheetModel" "last" "I", Cond.methodLink RX4 138 yX4_fills, Cond.instanceMethod yX4_fills, Cond.selects RX4 yX4_fills yX4_fills, Cond.code yX4_fills cX4_fills 4 none, Cond.fieldLink RX4 39 "TakeoffSheetModel" "variations" "[I", Cond.fieldLink RX4 30 "TakeoffSheetModel" "rateOf" "[I", Cond.fieldLink RX4 27 "TakeoffSheetModel" "parents" "[I", Cond.methodLink RX4 118 yX4_isHeading, Cond.instanceMethod yX4_isHeading]
def wsX4_sum_r2 : List Cond := [Cond.selects RX4 yX4_isHeading yX4_isHeading, Cond.code yX4_isHeading cX4_isHeading 2 (some .boolean), Cond.methodLink RX4 135 yX4_quantities, Cond.instanceMethod yX4_quantities, Cond.selects RX4 yX4_quantities yX4_quantities, Cond.code yX4_quantities cX4_quantities 2 (some .int), Cond.fieldLink RX4 36 "TakeoffSheetModel" "measures" "[I", Cond.fieldLink RX4 33 "TakeoffSheetModel" "wastes" "[I", Cond.constantLong RX4 131 (99), Cond.constantLong RX4 133 (100), Cond.methodLink RX4 114 yX4_cents, Cond.instanceMethod yX4_cents, Cond.selects RX4 yX4_cents yX4_cents, Cond.code yX4_cents cX4_cents 2 (some .int), Cond.fieldLink RX4 21 "TakeoffSheetModel" "amounts" "[I", Cond.fieldLink RX4 24 "TakeoffSheetModel" "prices" "[I"]
def wsX4_sum : List Cond := .code yX4_sum cX4_sum 2 (some .long) :: ((wsX4_sum_r1 ++ wsX4_sum_r2) ++ wsX40)
def wsX4_total_r1 : List Cond := [Cond.fieldLink RX4 52 "TakeoffSheetModel" "last" "I", Cond.fieldLink RX4 55 "TakeoffSheetModel" "items" "I", Cond.fieldLink RX4 45 "TakeoffSheetModel" "sums" "[J", Cond.methodLink RX4 138 yX4_fills, Cond.instanceMethod yX4_fills, Cond.selects RX4 yX4_fills yX4_fills, Cond.initialized RX4, Cond.code yX4_fills cX4_fills 4 none, Cond.fieldLink RX4 39 "TakeoffSheetModel" "variations" "[I", Cond.fieldLink RX4 30 "TakeoffSheetModel" "rateOf" "[I", Cond.fieldLink RX4 27 "TakeoffSheetModel" "parents" "[I", Cond.methodLink RX4 118 yX4_isHeading, Cond.instanceMethod yX4_isHeading, Cond.selects RX4 yX4_isHeading yX4_isHeading, Cond.code yX4_isHeading cX4_isHeading 2 (some .boolean), Cond.methodLink RX4 135 yX4_quantities, Cond.instanceMethod yX4_quantities, Cond.selects RX4 yX4_quantities yX4_quantities, Cond.code yX4_quantities cX4_quantities 2 (some .int), Cond.fieldLink RX4 36 "TakeoffSheetModel" "measures" "[I", Cond.fieldLink RX4 33 "TakeoffSheetModel" "wastes" "[I", Cond.constantLong RX4 131 (99), Cond.constantLong RX4 133 (100), Cond.methodLink RX4 114 yX4_cents]
def wsX4_total_r2 : List Cond := [Cond.instanceMethod yX4_cents, Cond.selects RX4 yX4_cents yX4_cents, Cond.code yX4_cents cX4_cents 2 (some .int), Cond.fieldLink RX4 21 "TakeoffSheetModel" "amounts" "[I", Cond.fieldLink RX4 24 "TakeoffSheetModel" "prices" "[I"]
def wsX4_total : List Cond := .code yX4_total cX4_total 4 (some .long) :: ((wsX4_total_r1 ++ wsX4_total_r2) ++ wsX40)
def wsX4_isBelow : List Cond := .code yX4_isBelow cX4_isBelow 4 (some .boolean) :: ([.fieldLink RX4 27 "TakeoffSheetModel" "parents" "[I"] ++ wsX40)
def wsX4_dearest_r1 : List Cond := [Cond.fieldLink RX4 55 "TakeoffSheetModel" "items" "I", Cond.fieldLink RX4 45 "TakeoffSheetModel" "sums" "[J", Cond.methodLink RX4 121 yX4_isItem, Cond.instanceMethod yX4_isItem, Cond.selects RX4 yX4_isItem yX4_isItem, Cond.initialized RX4, Cond.code yX4_isItem cX4_isItem 2 (some .boolean), Cond.methodLink RX4 58 yX4_in, Cond.static yX4_in, Cond.code yX4_in cX4_in 3 (some .boolean), Cond.methodLink RX4 65 yX4_goes, Cond.instanceMethod yX4_goes, Cond.selects RX4 yX4_goes yX4_goes, Cond.code yX4_goes cX4_goes 4 (some .boolean), Cond.fieldLink RX4 52 "TakeoffSheetModel" "last" "I", Cond.methodLink RX4 138 yX4_fills, Cond.instanceMethod yX4_fills, Cond.selects RX4 yX4_fills yX4_fills, Cond.code yX4_fills cX4_fills 4 none, Cond.fieldLink RX4 39 "TakeoffSheetModel" "variations" "[I", Cond.fieldLink RX4 30 "TakeoffSheetModel" "rateOf" "[I", Cond.fieldLink RX4 27 "TakeoffSheetModel" "parents" "[I", Cond.methodLink RX4 118 yX4_isHeading, Cond.instanceMethod yX4_isHeading]
def wsX4_dearest_r2 : List Cond := [Cond.selects RX4 yX4_isHeading yX4_isHeading, Cond.code yX4_isHeading cX4_isHeading 2 (some .boolean), Cond.methodLink RX4 135 yX4_quantities, Cond.instanceMethod yX4_quantities, Cond.selects RX4 yX4_quantities yX4_quantities, Cond.code yX4_quantities cX4_quantities 2 (some .int), Cond.fieldLink RX4 36 "TakeoffSheetModel" "measures" "[I", Cond.fieldLink RX4 33 "TakeoffSheetModel" "wastes" "[I", Cond.constantLong RX4 131 (99), Cond.constantLong RX4 133 (100), Cond.methodLink RX4 114 yX4_cents, Cond.instanceMethod yX4_cents, Cond.selects RX4 yX4_cents yX4_cents, Cond.code yX4_cents cX4_cents 2 (some .int), Cond.fieldLink RX4 21 "TakeoffSheetModel" "amounts" "[I", Cond.fieldLink RX4 24 "TakeoffSheetModel" "prices" "[I", Cond.methodLink RX4 141 yX4_isBelow, Cond.instanceMethod yX4_isBelow, Cond.selects RX4 yX4_isBelow yX4_isBelow, Cond.code yX4_isBelow cX4_isBelow 4 (some .boolean)]
def wsX4_dearest : List Cond := .code yX4_dearest cX4_dearest 5 (some .int) :: ((wsX4_dearest_r1 ++ wsX4_dearest_r2) ++ wsX40)
def wsX4_done : List Cond := .code yX4_done cX4_done 5 (some .int) :: ([.fieldLink RX4 42 "TakeoffSheetModel" "dones" "[I", .methodLink RX4 121 yX4_isItem, .instanceMethod yX4_isItem, .selects RX4 yX4_isItem yX4_isItem, .initialized RX4, .code yX4_isItem cX4_isItem 2 (some .boolean), .fieldLink RX4 55 "TakeoffSheetModel" "items" "I", .methodLink RX4 58 yX4_in, .static yX4_in, .code yX4_in cX4_in 3 (some .boolean), .methodLink RX4 118 yX4_isHeading, .instanceMethod yX4_isHeading, .selects RX4 yX4_isHeading yX4_isHeading, .code yX4_isHeading cX4_isHeading 2 (some .boolean), .fieldLink RX4 30 "TakeoffSheetModel" "rateOf" "[I", .methodLink RX4 65 yX4_goes, .instanceMethod yX4_goes, .selects RX4 yX4_goes yX4_goes, .code yX4_goes cX4_goes 4 (some .boolean), .fieldLink RX4 52 "TakeoffSheetModel" "last" "I"] ++ wsX40)
def wsX4_retention : List Cond := .code yX4_retention cX4_retention 3 (some .int) :: ([.fieldLink RX4 49 "TakeoffSheetModel" "retention" "I", .methodLink RX4 58 yX4_in, .static yX4_in, .initialized RX4, .code yX4_in cX4_in 3 (some .boolean), .methodLink RX4 65 yX4_goes, .instanceMethod yX4_goes, .selects RX4 yX4_goes yX4_goes, .code yX4_goes cX4_goes 4 (some .boolean), .fieldLink RX4 52 "TakeoffSheetModel" "last" "I"] ++ wsX40)
def wsX4_worthNow_r1 : List Cond := [Cond.fieldLink RX4 55 "TakeoffSheetModel" "items" "I", Cond.fieldLink RX4 45 "TakeoffSheetModel" "sums" "[J", Cond.fieldLink RX4 42 "TakeoffSheetModel" "dones" "[I", Cond.constantLong RX4 133 (100), Cond.methodLink RX4 138 yX4_fills, Cond.instanceMethod yX4_fills, Cond.selects RX4 yX4_fills yX4_fills, Cond.initialized RX4, Cond.code yX4_fills cX4_fills 4 none, Cond.fieldLink RX4 39 "TakeoffSheetModel" "variations" "[I", Cond.fieldLink RX4 30 "TakeoffSheetModel" "rateOf" "[I", Cond.fieldLink RX4 27 "TakeoffSheetModel" "parents" "[I", Cond.methodLink RX4 118 yX4_isHeading, Cond.instanceMethod yX4_isHeading, Cond.selects RX4 yX4_isHeading yX4_isHeading, Cond.code yX4_isHeading cX4_isHeading 2 (some .boolean), Cond.methodLink RX4 135 yX4_quantities, Cond.instanceMethod yX4_quantities, Cond.selects RX4 yX4_quantities yX4_quantities, Cond.code yX4_quantities cX4_quantities 2 (some .int), Cond.fieldLink RX4 36 "TakeoffSheetModel" "measures" "[I", Cond.fieldLink RX4 33 "TakeoffSheetModel" "wastes" "[I", Cond.constantLong RX4 131 (99), Cond.methodLink RX4 114 yX4_cents]
def wsX4_worthNow_r2 : List Cond := [Cond.instanceMethod yX4_cents, Cond.selects RX4 yX4_cents yX4_cents, Cond.code yX4_cents cX4_cents 2 (some .int), Cond.fieldLink RX4 21 "TakeoffSheetModel" "amounts" "[I", Cond.fieldLink RX4 24 "TakeoffSheetModel" "prices" "[I"]
def wsX4_worthNow : List Cond := .code yX4_worthNow cX4_worthNow 4 (some .long) :: ((wsX4_worthNow_r1 ++ wsX4_worthNow_r2) ++ wsX40)
def wsX4_dueNow_r1 : List Cond := [Cond.fieldLink RX4 49 "TakeoffSheetModel" "retention" "I", Cond.constantLong RX4 131 (99), Cond.constantLong RX4 133 (100), Cond.methodLink RX4 145 yX4_worthNow, Cond.instanceMethod yX4_worthNow, Cond.selects RX4 yX4_worthNow yX4_worthNow, Cond.initialized RX4, Cond.code yX4_worthNow cX4_worthNow 4 (some .long), Cond.fieldLink RX4 55 "TakeoffSheetModel" "items" "I", Cond.fieldLink RX4 45 "TakeoffSheetModel" "sums" "[J", Cond.fieldLink RX4 42 "TakeoffSheetModel" "dones" "[I", Cond.methodLink RX4 138 yX4_fills, Cond.instanceMethod yX4_fills, Cond.selects RX4 yX4_fills yX4_fills, Cond.code yX4_fills cX4_fills 4 none, Cond.fieldLink RX4 39 "TakeoffSheetModel" "variations" "[I", Cond.fieldLink RX4 30 "TakeoffSheetModel" "rateOf" "[I", Cond.fieldLink RX4 27 "TakeoffSheetModel" "parents" "[I", Cond.methodLink RX4 118 yX4_isHeading, Cond.instanceMethod yX4_isHeading, Cond.selects RX4 yX4_isHeading yX4_isHeading, Cond.code yX4_isHeading cX4_isHeading 2 (some .boolean), Cond.methodLink RX4 135 yX4_quantities, Cond.instanceMethod yX4_quantities]
def wsX4_dueNow_r2 : List Cond := [Cond.selects RX4 yX4_quantities yX4_quantities, Cond.code yX4_quantities cX4_quantities 2 (some .int), Cond.fieldLink RX4 36 "TakeoffSheetModel" "measures" "[I", Cond.fieldLink RX4 33 "TakeoffSheetModel" "wastes" "[I", Cond.methodLink RX4 114 yX4_cents, Cond.instanceMethod yX4_cents, Cond.selects RX4 yX4_cents yX4_cents, Cond.code yX4_cents cX4_cents 2 (some .int), Cond.fieldLink RX4 21 "TakeoffSheetModel" "amounts" "[I", Cond.fieldLink RX4 24 "TakeoffSheetModel" "prices" "[I"]
def wsX4_dueNow : List Cond := .code yX4_dueNow cX4_dueNow 3 (some .long) :: ((wsX4_dueNow_r1 ++ wsX4_dueNow_r2) ++ wsX40)
def wsX4_worth_r1 : List Cond := [Cond.fieldLink RX4 52 "TakeoffSheetModel" "last" "I", Cond.methodLink RX4 145 yX4_worthNow, Cond.instanceMethod yX4_worthNow, Cond.selects RX4 yX4_worthNow yX4_worthNow, Cond.initialized RX4, Cond.code yX4_worthNow cX4_worthNow 4 (some .long), Cond.fieldLink RX4 55 "TakeoffSheetModel" "items" "I", Cond.fieldLink RX4 45 "TakeoffSheetModel" "sums" "[J", Cond.fieldLink RX4 42 "TakeoffSheetModel" "dones" "[I", Cond.constantLong RX4 133 (100), Cond.methodLink RX4 138 yX4_fills, Cond.instanceMethod yX4_fills, Cond.selects RX4 yX4_fills yX4_fills, Cond.code yX4_fills cX4_fills 4 none, Cond.fieldLink RX4 39 "TakeoffSheetModel" "variations" "[I", Cond.fieldLink RX4 30 "TakeoffSheetModel" "rateOf" "[I", Cond.fieldLink RX4 27 "TakeoffSheetModel" "parents" "[I", Cond.methodLink RX4 118 yX4_isHeading, Cond.instanceMethod yX4_isHeading, Cond.selects RX4 yX4_isHeading yX4_isHeading, Cond.code yX4_isHeading cX4_isHeading 2 (some .boolean), Cond.methodLink RX4 135 yX4_quantities, Cond.instanceMethod yX4_quantities, Cond.selects RX4 yX4_quantities yX4_quantities]
def wsX4_worth_r2 : List Cond := [Cond.code yX4_quantities cX4_quantities 2 (some .int), Cond.fieldLink RX4 36 "TakeoffSheetModel" "measures" "[I", Cond.fieldLink RX4 33 "TakeoffSheetModel" "wastes" "[I", Cond.constantLong RX4 131 (99), Cond.methodLink RX4 114 yX4_cents, Cond.instanceMethod yX4_cents, Cond.selects RX4 yX4_cents yX4_cents, Cond.code yX4_cents cX4_cents 2 (some .int), Cond.fieldLink RX4 21 "TakeoffSheetModel" "amounts" "[I", Cond.fieldLink RX4 24 "TakeoffSheetModel" "prices" "[I"]
def wsX4_worth : List Cond := .code yX4_worth cX4_worth 1 (some .long) :: ((wsX4_worth_r1 ++ wsX4_worth_r2) ++ wsX40)
def wsX4_due_r1 : List Cond := [Cond.fieldLink RX4 52 "TakeoffSheetModel" "last" "I", Cond.methodLink RX4 149 yX4_dueNow, Cond.instanceMethod yX4_dueNow, Cond.selects RX4 yX4_dueNow yX4_dueNow, Cond.initialized RX4, Cond.code yX4_dueNow cX4_dueNow 3 (some .long), Cond.fieldLink RX4 49 "TakeoffSheetModel" "retention" "I", Cond.constantLong RX4 131 (99), Cond.constantLong RX4 133 (100), Cond.methodLink RX4 145 yX4_worthNow, Cond.instanceMethod yX4_worthNow, Cond.selects RX4 yX4_worthNow yX4_worthNow, Cond.code yX4_worthNow cX4_worthNow 4 (some .long), Cond.fieldLink RX4 55 "TakeoffSheetModel" "items" "I", Cond.fieldLink RX4 45 "TakeoffSheetModel" "sums" "[J", Cond.fieldLink RX4 42 "TakeoffSheetModel" "dones" "[I", Cond.methodLink RX4 138 yX4_fills, Cond.instanceMethod yX4_fills, Cond.selects RX4 yX4_fills yX4_fills, Cond.code yX4_fills cX4_fills 4 none, Cond.fieldLink RX4 39 "TakeoffSheetModel" "variations" "[I", Cond.fieldLink RX4 30 "TakeoffSheetModel" "rateOf" "[I", Cond.fieldLink RX4 27 "TakeoffSheetModel" "parents" "[I", Cond.methodLink RX4 118 yX4_isHeading]
def wsX4_due_r2 : List Cond := [Cond.instanceMethod yX4_isHeading, Cond.selects RX4 yX4_isHeading yX4_isHeading, Cond.code yX4_isHeading cX4_isHeading 2 (some .boolean), Cond.methodLink RX4 135 yX4_quantities, Cond.instanceMethod yX4_quantities, Cond.selects RX4 yX4_quantities yX4_quantities, Cond.code yX4_quantities cX4_quantities 2 (some .int), Cond.fieldLink RX4 36 "TakeoffSheetModel" "measures" "[I", Cond.fieldLink RX4 33 "TakeoffSheetModel" "wastes" "[I", Cond.methodLink RX4 114 yX4_cents, Cond.instanceMethod yX4_cents, Cond.selects RX4 yX4_cents yX4_cents, Cond.code yX4_cents cX4_cents 2 (some .int), Cond.fieldLink RX4 21 "TakeoffSheetModel" "amounts" "[I", Cond.fieldLink RX4 24 "TakeoffSheetModel" "prices" "[I"]
def wsX4_due : List Cond := .code yX4_due cX4_due 1 (some .long) :: ((wsX4_due_r1 ++ wsX4_due_r2) ++ wsX40)
def wsX4_claim_r1 : List Cond := [Cond.fieldLink RX4 152 "TakeoffSheetModel" "claimed" "J", Cond.methodLink RX4 149 yX4_dueNow, Cond.instanceMethod yX4_dueNow, Cond.selects RX4 yX4_dueNow yX4_dueNow, Cond.initialized RX4, Cond.code yX4_dueNow cX4_dueNow 3 (some .long), Cond.fieldLink RX4 49 "TakeoffSheetModel" "retention" "I", Cond.constantLong RX4 131 (99), Cond.constantLong RX4 133 (100), Cond.methodLink RX4 145 yX4_worthNow, Cond.instanceMethod yX4_worthNow, Cond.selects RX4 yX4_worthNow yX4_worthNow, Cond.code yX4_worthNow cX4_worthNow 4 (some .long), Cond.fieldLink RX4 55 "TakeoffSheetModel" "items" "I", Cond.fieldLink RX4 45 "TakeoffSheetModel" "sums" "[J", Cond.fieldLink RX4 42 "TakeoffSheetModel" "dones" "[I", Cond.methodLink RX4 138 yX4_fills, Cond.instanceMethod yX4_fills, Cond.selects RX4 yX4_fills yX4_fills, Cond.code yX4_fills cX4_fills 4 none, Cond.fieldLink RX4 39 "TakeoffSheetModel" "variations" "[I", Cond.fieldLink RX4 30 "TakeoffSheetModel" "rateOf" "[I", Cond.fieldLink RX4 27 "TakeoffSheetModel" "parents" "[I", Cond.methodLink RX4 118 yX4_isHeading]
def wsX4_claim_r2 : List Cond := [Cond.instanceMethod yX4_isHeading, Cond.selects RX4 yX4_isHeading yX4_isHeading, Cond.code yX4_isHeading cX4_isHeading 2 (some .boolean), Cond.methodLink RX4 135 yX4_quantities, Cond.instanceMethod yX4_quantities, Cond.selects RX4 yX4_quantities yX4_quantities, Cond.code yX4_quantities cX4_quantities 2 (some .int), Cond.fieldLink RX4 36 "TakeoffSheetModel" "measures" "[I", Cond.fieldLink RX4 33 "TakeoffSheetModel" "wastes" "[I", Cond.methodLink RX4 114 yX4_cents, Cond.instanceMethod yX4_cents, Cond.selects RX4 yX4_cents yX4_cents, Cond.code yX4_cents cX4_cents 2 (some .int), Cond.fieldLink RX4 21 "TakeoffSheetModel" "amounts" "[I", Cond.fieldLink RX4 24 "TakeoffSheetModel" "prices" "[I", Cond.methodLink RX4 65 yX4_goes, Cond.instanceMethod yX4_goes, Cond.selects RX4 yX4_goes yX4_goes, Cond.code yX4_goes cX4_goes 4 (some .boolean), Cond.fieldLink RX4 52 "TakeoffSheetModel" "last" "I"]
def wsX4_claim : List Cond := .code yX4_claim cX4_claim 3 (some .long) :: ((wsX4_claim_r1 ++ wsX4_claim_r2) ++ wsX40)
def wsX4_claimed : List Cond := .code yX4_claimed cX4_claimed 1 (some .long) :: ([.fieldLink RX4 52 "TakeoffSheetModel" "last" "I", .fieldLink RX4 152 "TakeoffSheetModel" "claimed" "J"] ++ wsX40)
def wsJ9_abs_0f7a4 : List Cond := .code yJ9_abs_0f7a4 cJ9_abs_0f7a4 1 (some .int) :: ([])
def wsJ9_max_7cf53 : List Cond := .code yJ9_max_7cf53 cJ9_max_7cf53 2 (some .int) :: ([])
def wsJ9_max_f86c9 : List Cond := .code yJ9_max_f86c9 cJ9_max_f86c9 4 (some .long) :: ([])
def wsJ9_min_7cf53 : List Cond := .code yJ9_min_7cf53 cJ9_min_7cf53 2 (some .int) :: ([])
def wsL_begin_r1 : List Cond := [Cond.classLink RL 13 "java/lang/IllegalArgumentException", Cond.methodLink RL 7 yX3_begin, Cond.instanceMethod yX3_begin, Cond.selects RX3 yX3_begin yX3_begin, Cond.initialized RX3, Cond.code yX3_begin cX3_begin 3 none, Cond.fieldLink RX3 10 "TakeoffSheet" "drawing" "LTakeoffSheet$Drawing;", Cond.methodLink RX3 41 yX3_checkRange, Cond.static yX3_checkRange, Cond.code yX3_checkRange cX3_checkRange 3 none, Cond.classLink RX3 190 "java/lang/IllegalArgumentException", Cond.initialized "java/lang/IllegalArgumentException", Cond.methodLink RX3 45 yX0_startAt, Cond.instanceMethod yX0_startAt, Cond.selects RX0 yX0_startAt yX0_startAt, Cond.initialized RX0, Cond.code yX0_startAt cX0_startAt 3 none, Cond.fieldLink RX0 9 "TakeoffSheet$Drawing" "over" "[J", Cond.fieldLink RX0 15 "TakeoffSheet$Drawing" "wallsNorth" "[J", Cond.fieldLink RX0 18 "TakeoffSheet$Drawing" "openings" "[I", Cond.fieldLink RX0 31 "TakeoffSheet$Drawing" "openingCount" "I", Cond.fieldLink RX0 35 "TakeoffSheet$Drawing" "otherPlaces" "I", Cond.fieldLink RX0 38 "TakeoffSheet$Drawing" "twiceArea" "I", Cond.fieldLink RX0 41 "TakeoffSheet$Drawing" "beginX" "I"]
def wsL_begin_r2 : List Cond := [Cond.fieldLink RX0 44 "TakeoffSheet$Drawing" "beginY" "I", Cond.fieldLink RX0 47 "TakeoffSheet$Drawing" "x" "I", Cond.fieldLink RX0 50 "TakeoffSheet$Drawing" "y" "I", Cond.fieldLink RX0 57 "TakeoffSheet$Drawing" "begun" "Z", Cond.fieldLink RX0 61 "TakeoffSheet$Drawing" "closed" "Z", Cond.methodLink RX0 22 yJ7_fill_d0a16, Cond.static yJ7_fill_d0a16, Cond.initialized RJ7, Cond.code yJ7_fill_d0a16 cJ7_fill_d0a16 5 none, Cond.methodLink RX0 28 yJ7_fill_53178, Cond.static yJ7_fill_53178, Cond.code yJ7_fill_53178 cJ7_fill_53178 4 none, Cond.methodLink RX0 53 yX0_mark, Cond.static yX0_mark, Cond.code yX0_mark cX0_mark 3 none, Cond.methodLink RX0 101 yX0_isPlace, Cond.static yX0_isPlace, Cond.code yX0_isPlace cX0_isPlace 2 (some .boolean)]
def wsL_begin : List Cond := .codeWith yL_begin cL_begin 4 (some .int) [(0, 6, 9, 13)] :: ((wsL_begin_r1 ++ wsL_begin_r2) ++ wsX30 ++ wsX00 ++ (vx_atS RX3 194 "java/lang/IllegalArgumentException" ["java/lang/RuntimeException", "java/lang/Exception"]).filter goodWord)
def wsL_wall_r1 : List Cond := [Cond.classLink RL 13 "java/lang/IllegalArgumentException", Cond.classLink RL 19 "java/lang/IllegalStateException", Cond.classLink RL 21 "java/lang/IndexOutOfBoundsException", Cond.methodLink RL 15 yX3_wall, Cond.instanceMethod yX3_wall, Cond.selects RX3 yX3_wall yX3_wall, Cond.initialized RX3, Cond.code yX3_wall cX3_wall 3 (some .boolean), Cond.classLink RX3 56 "java/lang/IllegalStateException", Cond.initialized "java/lang/IllegalStateException", Cond.classLink RX3 67 "java/lang/IndexOutOfBoundsException", Cond.initialized "java/lang/IndexOutOfBoundsException", Cond.fieldLink RX3 10 "TakeoffSheet" "drawing" "LTakeoffSheet$Drawing;", Cond.fieldLink RX3 49 "TakeoffSheet$Drawing" "begun" "Z", Cond.fieldLink RX3 53 "TakeoffSheet$Drawing" "closed" "Z", Cond.methodLink RX3 41 yX3_checkRange, Cond.static yX3_checkRange, Cond.code yX3_checkRange cX3_checkRange 3 none, Cond.classLink RX3 190 "java/lang/IllegalArgumentException", Cond.initialized "java/lang/IllegalArgumentException", Cond.methodLink RX3 63 yX0_admits, Cond.instanceMethod yX0_admits, Cond.selects RX0 yX0_admits yX0_admits, Cond.initialized RX0]
def wsL_wall_r2 : List Cond := [Cond.code yX0_admits cX0_admits 7 (some .boolean), Cond.fieldLink RX0 47 "TakeoffSheet$Drawing" "x" "I", Cond.fieldLink RX0 50 "TakeoffSheet$Drawing" "y" "I", Cond.methodLink RX0 64 yX0_eastward, Cond.static yX0_eastward, Cond.code yX0_eastward cX0_eastward 1 (some .int), Cond.methodLink RX0 68 yX0_northward, Cond.static yX0_northward, Cond.code yX0_northward cX0_northward 1 (some .int), Cond.methodLink RX0 71 yX0_isFree, Cond.instanceMethod yX0_isFree, Cond.selects RX0 yX0_isFree yX0_isFree, Cond.code yX0_isFree cX0_isFree 3 (some .boolean), Cond.fieldLink RX0 9 "TakeoffSheet$Drawing" "over" "[J", Cond.methodLink RX0 101 yX0_isPlace, Cond.static yX0_isPlace, Cond.code yX0_isPlace cX0_isPlace 2 (some .boolean), Cond.methodLink RX0 97 yX0_isMarked, Cond.static yX0_isMarked, Cond.code yX0_isMarked cX0_isMarked 3 (some .boolean), Cond.methodLink RX0 75 yX0_closesAt, Cond.instanceMethod yX0_closesAt, Cond.selects RX0 yX0_closesAt yX0_closesAt, Cond.code yX0_closesAt cX0_closesAt 3 (some .boolean)]
def wsL_wall_r3 : List Cond := [Cond.fieldLink RX0 41 "TakeoffSheet$Drawing" "beginX" "I", Cond.fieldLink RX0 44 "TakeoffSheet$Drawing" "beginY" "I", Cond.fieldLink RX0 35 "TakeoffSheet$Drawing" "otherPlaces" "I", Cond.methodLink RX3 72 yX0_goOn, Cond.instanceMethod yX0_goOn, Cond.selects RX0 yX0_goOn yX0_goOn, Cond.code yX0_goOn cX0_goOn 8 none, Cond.methodLink RX0 78 Lib.Math.min.name, Cond.static Lib.Math.min.name, Cond.initialized "java/lang/Math", Cond.code Lib.Math.min.name Lib.Math.min.code 2 (some .int), Cond.methodLink RX0 84 Lib.Math.max.name, Cond.static Lib.Math.max.name, Cond.code Lib.Math.max.name Lib.Math.max.code 2 (some .int), Cond.fieldLink RX0 15 "TakeoffSheet$Drawing" "wallsNorth" "[J", Cond.fieldLink RX0 38 "TakeoffSheet$Drawing" "twiceArea" "I", Cond.fieldLink RX0 61 "TakeoffSheet$Drawing" "closed" "Z", Cond.methodLink RX0 53 yX0_mark, Cond.static yX0_mark, Cond.code yX0_mark cX0_mark 3 none]
def wsL_wall : List Cond := .codeWith yL_wall cL_wall 5 (some .int) [(0, 17, 20, 13), (0, 17, 24, 19), (0, 17, 28, 21)] :: ((wsL_wall_r1 ++ (wsL_wall_r2 ++ wsL_wall_r3)) ++ wsX30 ++ wsX00 ++ (vx_atS RX3 60 "java/lang/IllegalStateException" ["java/lang/RuntimeException", "java/lang/Exception"]).filter goodWord ++ (vx_atS RX3 71 "java/lang/IndexOutOfBoundsException" ["java/lang/RuntimeException", "java/lang/Exception"]).filter goodWord ++ (vx_atS RX3 194 "java/lang/IllegalArgumentException" ["java/lang/RuntimeException", "java/lang/Exception"]).filter goodWord)
def wsL_opening_r1 : List Cond := [Cond.classLink RL 13 "java/lang/IllegalArgumentException", Cond.classLink RL 19 "java/lang/IllegalStateException", Cond.methodLink RL 23 yX3_opening, Cond.instanceMethod yX3_opening, Cond.selects RX3 yX3_opening yX3_opening, Cond.initialized RX3, Cond.code yX3_opening cX3_opening 3 (some .int), Cond.classLink RX3 56 "java/lang/IllegalStateException", Cond.initialized "java/lang/IllegalStateException", Cond.fieldLink RX3 10 "TakeoffSheet" "drawing" "LTakeoffSheet$Drawing;", Cond.fieldLink RX3 84 "TakeoffSheet$Drawing" "openingCount" "I", Cond.methodLink RX3 41 yX3_checkRange, Cond.static yX3_checkRange, Cond.code yX3_checkRange cX3_checkRange 3 none, Cond.classLink RX3 190 "java/lang/IllegalArgumentException", Cond.initialized "java/lang/IllegalArgumentException", Cond.methodLink RX3 75 yX3_checkClosed, Cond.instanceMethod yX3_checkClosed, Cond.selects RX3 yX3_checkClosed yX3_checkClosed, Cond.code yX3_checkClosed cX3_checkClosed 1 none, Cond.fieldLink RX3 53 "TakeoffSheet$Drawing" "closed" "Z", Cond.methodLink RX3 78 yX0_addOpening, Cond.instanceMethod yX0_addOpening, Cond.selects RX0 yX0_addOpening yX0_addOpening]
def wsL_opening_r2 : List Cond := [Cond.initialized RX0, Cond.code yX0_addOpening cX0_addOpening 2 (some .boolean), Cond.fieldLink RX0 31 "TakeoffSheet$Drawing" "openingCount" "I", Cond.fieldLink RX0 18 "TakeoffSheet$Drawing" "openings" "[I"]
def wsL_opening : List Cond := .codeWith yL_opening cL_opening 5 (some .int) [(0, 10, 13, 13), (0, 10, 17, 19)] :: ((wsL_opening_r1 ++ wsL_opening_r2) ++ wsX30 ++ wsX00 ++ (vx_atS RX3 60 "java/lang/IllegalStateException" ["java/lang/RuntimeException", "java/lang/Exception"]).filter goodWord ++ (vx_atS RX3 194 "java/lang/IllegalArgumentException" ["java/lang/RuntimeException", "java/lang/Exception"]).filter goodWord)
def wsL_limit : List Cond := .codeWith yL_limit cL_limit 4 (some .int) [(0, 9, 12, 13)] :: ([.classLink RL 13 "java/lang/IllegalArgumentException", .methodLink RL 27 yX3_limit, .instanceMethod yX3_limit, .selects RX3 yX3_limit yX3_limit, .initialized RX3, .code yX3_limit cX3_limit 3 (some .int), .fieldLink RX3 30 "TakeoffSheet" "limit" "I", .methodLink RX3 41 yX3_checkRange, .static yX3_checkRange, .code yX3_checkRange cX3_checkRange 3 none, .classLink RX3 190 "java/lang/IllegalArgumentException", .initialized "java/lang/IllegalArgumentException"] ++ wsX30 ++ (vx_atS RX3 194 "java/lang/IllegalArgumentException" ["java/lang/RuntimeException", "java/lang/Exception"]).filter goodWord)
def wsL_area : List Cond := .codeWith yL_area cL_area 3 (some .int) [(0, 8, 11, 19)] :: ([.classLink RL 19 "java/lang/IllegalStateException", .methodLink RL 31 yX3_area, .instanceMethod yX3_area, .selects RX3 yX3_area yX3_area, .initialized RX3, .code yX3_area cX3_area 1 (some .int), .fieldLink RX3 10 "TakeoffSheet" "drawing" "LTakeoffSheet$Drawing;", .methodLink RX3 75 yX3_checkClosed, .instanceMethod yX3_checkClosed, .selects RX3 yX3_checkClosed yX3_checkClosed, .code yX3_checkClosed cX3_checkClosed 1 none, .classLink RX3 56 "java/lang/IllegalStateException", .initialized "java/lang/IllegalStateException", .fieldLink RX3 53 "TakeoffSheet$Drawing" "closed" "Z", .methodLink RX3 87 yX0_areaByCorners, .instanceMethod yX0_areaByCorners, .selects RX0 yX0_areaByCorners yX0_areaByCorners, .initialized RX0, .code yX0_areaByCorners cX0_areaByCorners 1 (some .int), .fieldLink RX0 38 "TakeoffSheet$Drawing" "twiceArea" "I", .methodLink RX0 87 Lib.Math.abs.name, .static Lib.Math.abs.name, .initialized "java/lang/Math", .code Lib.Math.abs.name Lib.Math.abs.code 1 (some .int)] ++ wsX30 ++ wsX00 ++ (vx_atS RX3 60 "java/lang/IllegalStateException" ["java/lang/RuntimeException", "java/lang/Exception"]).filter goodWord)
def wsL_areaByStrips_r1 : List Cond := [Cond.classLink RL 19 "java/lang/IllegalStateException", Cond.methodLink RL 35 yX3_areaByStrips, Cond.instanceMethod yX3_areaByStrips, Cond.selects RX3 yX3_areaByStrips yX3_areaByStrips, Cond.initialized RX3, Cond.code yX3_areaByStrips cX3_areaByStrips 1 (some .int), Cond.fieldLink RX3 10 "TakeoffSheet" "drawing" "LTakeoffSheet$Drawing;", Cond.methodLink RX3 75 yX3_checkClosed, Cond.instanceMethod yX3_checkClosed, Cond.selects RX3 yX3_checkClosed yX3_checkClosed, Cond.code yX3_checkClosed cX3_checkClosed 1 none, Cond.classLink RX3 56 "java/lang/IllegalStateException", Cond.initialized "java/lang/IllegalStateException", Cond.fieldLink RX3 53 "TakeoffSheet$Drawing" "closed" "Z", Cond.methodLink RX3 91 yX0_squaresInside, Cond.instanceMethod yX0_squaresInside, Cond.selects RX0 yX0_squaresInside yX0_squaresInside, Cond.initialized RX0, Cond.code yX0_squaresInside cX0_squaresInside 3 (some .int), Cond.methodLink RX0 90 yX0_squaresInStrip, Cond.instanceMethod yX0_squaresInStrip, Cond.selects RX0 yX0_squaresInStrip yX0_squaresInStrip, Cond.code yX0_squaresInStrip cX0_squaresInStrip 5 (some .int), Cond.fieldLink RX0 15 "TakeoffSheet$Drawing" "wallsNorth" "[J"]
def wsL_areaByStrips_r2 : List Cond := [Cond.methodLink RX0 97 yX0_isMarked, Cond.static yX0_isMarked, Cond.code yX0_isMarked cX0_isMarked 3 (some .boolean), Cond.methodLink RX0 101 yX0_isPlace, Cond.static yX0_isPlace, Cond.code yX0_isPlace cX0_isPlace 2 (some .boolean)]
def wsL_areaByStrips : List Cond := .codeWith yL_areaByStrips cL_areaByStrips 3 (some .int) [(0, 8, 11, 19)] :: ((wsL_areaByStrips_r1 ++ wsL_areaByStrips_r2) ++ wsX30 ++ wsX00 ++ (vx_atS RX3 60 "java/lang/IllegalStateException" ["java/lang/RuntimeException", "java/lang/Exception"]).filter goodWord)
def wsL_netArea_r1 : List Cond := [Cond.classLink RL 19 "java/lang/IllegalStateException", Cond.methodLink RL 38 yX3_netArea, Cond.instanceMethod yX3_netArea, Cond.selects RX3 yX3_netArea yX3_netArea, Cond.initialized RX3, Cond.code yX3_netArea cX3_netArea 1 (some .int), Cond.fieldLink RX3 10 "TakeoffSheet" "drawing" "LTakeoffSheet$Drawing;", Cond.fieldLink RX3 30 "TakeoffSheet" "limit" "I", Cond.methodLink RX3 75 yX3_checkClosed, Cond.instanceMethod yX3_checkClosed, Cond.selects RX3 yX3_checkClosed yX3_checkClosed, Cond.code yX3_checkClosed cX3_checkClosed 1 none, Cond.classLink RX3 56 "java/lang/IllegalStateException", Cond.initialized "java/lang/IllegalStateException", Cond.fieldLink RX3 53 "TakeoffSheet$Drawing" "closed" "Z", Cond.methodLink RX3 94 yX0_areaLeft, Cond.instanceMethod yX0_areaLeft, Cond.selects RX0 yX0_areaLeft yX0_areaLeft, Cond.initialized RX0, Cond.code yX0_areaLeft cX0_areaLeft 4 (some .int), Cond.fieldLink RX0 18 "TakeoffSheet$Drawing" "openings" "[I", Cond.methodLink RX0 84 Lib.Math.max.name, Cond.static Lib.Math.max.name, Cond.initialized "java/lang/Math"]
def wsL_netArea_r2 : List Cond := [Cond.code Lib.Math.max.name Lib.Math.max.code 2 (some .int), Cond.methodLink RX0 93 yX0_areaByCorners, Cond.instanceMethod yX0_areaByCorners, Cond.selects RX0 yX0_areaByCorners yX0_areaByCorners, Cond.code yX0_areaByCorners cX0_areaByCorners 1 (some .int), Cond.fieldLink RX0 38 "TakeoffSheet$Drawing" "twiceArea" "I", Cond.methodLink RX0 87 Lib.Math.abs.name, Cond.static Lib.Math.abs.name, Cond.code Lib.Math.abs.name Lib.Math.abs.code 1 (some .int)]
def wsL_netArea : List Cond := .codeWith yL_netArea cL_netArea 3 (some .int) [(0, 8, 11, 19)] :: ((wsL_netArea_r1 ++ wsL_netArea_r2) ++ wsX30 ++ wsX00 ++ (vx_atS RX3 60 "java/lang/IllegalStateException" ["java/lang/RuntimeException", "java/lang/Exception"]).filter goodWord)
def wsL_rate_r1 : List Cond := [Cond.classLink RL 13 "java/lang/IllegalArgumentException", Cond.classLink RL 19 "java/lang/IllegalStateException", Cond.methodLink RL 41 yX3_rate, Cond.instanceMethod yX3_rate, Cond.selects RX3 yX3_rate yX3_rate, Cond.initialized RX3, Cond.code yX3_rate cX3_rate 5 (some .int), Cond.classLink RX3 56 "java/lang/IllegalStateException", Cond.initialized "java/lang/IllegalStateException", Cond.fieldLink RX3 19 "TakeoffSheet" "rates" "Ljava/util/ArrayList;", Cond.classLink RX3 105 "TakeoffSheet$Rate", Cond.classLink RX3 105 RX2, Cond.instantiable RX2 3, Cond.initialized RX2, Cond.methodLink RX3 41 yX3_checkRange, Cond.static yX3_checkRange, Cond.code yX3_checkRange cX3_checkRange 3 none, Cond.classLink RX3 190 "java/lang/IllegalArgumentException", Cond.initialized "java/lang/IllegalArgumentException", Cond.methodLink RX3 98 yJx4a65c_size_8abf5, Cond.instanceMethod yJx4a65c_size_8abf5, Cond.selects RJx4a65c yJx4a65c_size_8abf5 yJx4a65c_size_8abf5, Cond.initialized RJx4a65c, Cond.code yJx4a65c_size_8abf5 cJx4a65c_size_8abf5 1 (some .int)]
def wsL_rate_r2 : List Cond := [Cond.fieldLink RJx4a65c 48 "java/util/ArrayList" "size" "I", Cond.methodLink RX3 101 yJx4a65c_get_915e3, Cond.instanceMethod yJx4a65c_get_915e3, Cond.selects RJx4a65c yJx4a65c_get_915e3 yJx4a65c_get_915e3, Cond.code yJx4a65c_get_915e3 cJx4a65c_get_915e3 2 (some (.object "java/lang/Object")), Cond.methodLink RJx4a65c 118 yJ15_checkIndex_7cf53, Cond.static yJ15_checkIndex_7cf53, Cond.initialized RJ15, Cond.code yJ15_checkIndex_7cf53 cJ15_checkIndex_7cf53 2 (some .int), Cond.methodLink RJ15 105 yJ3_checkIndex_8e157, Cond.static yJ3_checkIndex_8e157, Cond.initialized RJ3, Cond.code yJ3_checkIndex_8e157 cJ3_checkIndex_8e157 3 (some .int), Cond.methodLink RJx4a65c 123 yJx4a65c_elementData_915e3, Cond.instanceMethod yJx4a65c_elementData_915e3, Cond.selects RJx4a65c yJx4a65c_elementData_915e3 yJx4a65c_elementData_915e3, Cond.code yJx4a65c_elementData_915e3 cJx4a65c_elementData_915e3 2 (some (.object "java/lang/Object")), Cond.fieldLink RJx4a65c 9 "java/util/ArrayList" "elementData" "[Ljava/lang/Object;", Cond.methodLink RX3 107 yX2_isOf, Cond.instanceMethod yX2_isOf, Cond.selects RX2 yX2_isOf yX2_isOf, Cond.code yX2_isOf cX2_isOf 4 (some .boolean), Cond.fieldLink RX2 7 "TakeoffSheet$Rate" "labour" "I", Cond.fieldLink RX2 13 "TakeoffSheet$Rate" "plant" "I"]
def wsL_rate_r3 : List Cond := [Cond.fieldLink RX2 16 "TakeoffSheet$Rate" "material" "I", Cond.methodLink RX3 113 yX2_init, Cond.instanceMethod yX2_init, Cond.code yX2_init cX2_init 4 none, Cond.methodLink RX2 1 objectInit, Cond.instanceMethod objectInit, Cond.code objectInit ⟨#[0xb1]⟩ 1 none, Cond.methodLink RX3 115 yJx4a65c_add_9ea2d, Cond.instanceMethod yJx4a65c_add_9ea2d, Cond.selects RJx4a65c yJx4a65c_add_9ea2d yJx4a65c_add_9ea2d, Cond.code yJx4a65c_add_9ea2d cJx4a65c_add_9ea2d 2 (some .boolean), Cond.fieldLink RJx4a65c 63 "java/util/ArrayList" "modCount" "I", Cond.sameField "java/util/ArrayList" "java/util/AbstractList" "modCount" "I", Cond.methodLink RJx4a65c 131 yJx4a65c_add_72be8, Cond.instanceMethod yJx4a65c_add_72be8, Cond.selects RJx4a65c yJx4a65c_add_72be8 yJx4a65c_add_72be8, Cond.code yJx4a65c_add_72be8 cJx4a65c_add_72be8 4 none, Cond.methodLink RJx4a65c 129 yJx4a65c_grow_d5877, Cond.instanceMethod yJx4a65c_grow_d5877, Cond.selects RJx4a65c yJx4a65c_grow_d5877 yJx4a65c_grow_d5877, Cond.code yJx4a65c_grow_d5877 cJx4a65c_grow_d5877 1 (some (.array (.object "java/lang/Object"))), Cond.methodLink RJx4a65c 69 yJx4a65c_grow_92f84, Cond.instanceMethod yJx4a65c_grow_92f84, Cond.selects RJx4a65c yJx4a65c_grow_92f84 yJx4a65c_grow_92f84]
def wsL_rate_r4 : List Cond := [Cond.code yJx4a65c_grow_92f84 cJx4a65c_grow_92f84 4 (some (.array (.object "java/lang/Object"))), Cond.fieldLink RJx4a65c 39 "java/util/ArrayList" "DEFAULTCAPACITY_EMPTY_ELEMENTDATA" "[Ljava/lang/Object;", Cond.methodLink RJx4a65c 79 Lib.Math.max.name, Cond.static Lib.Math.max.name, Cond.initialized "java/lang/Math", Cond.code Lib.Math.max.name Lib.Math.max.code 2 (some .int), Cond.classLink RJx4a65c 7 "java/lang/Object", Cond.methodLink RJx4a65c 73 yJ8_newLength_cabcc, Cond.static yJ8_newLength_cabcc, Cond.initialized RJ8, Cond.code yJ8_newLength_cabcc cJ8_newLength_cabcc 4 (some .int), Cond.methodLink RJ8 194 Lib.Math.max.name, Cond.constant RJ8 200 (2147483639), Cond.methodLink RJ8 201 yJ8_hugeLength_7cf53, Cond.static yJ8_hugeLength_7cf53, Cond.code yJ8_hugeLength_7cf53 cJ8_hugeLength_7cf53 3 (some .int), Cond.methodLink RJx4a65c 66 yJ7_copyOf_1904c, Cond.static yJ7_copyOf_1904c, Cond.initialized RJ7, Cond.code yJ7_copyOf_1904c cJ7_copyOf_1904c 2 (some (.array (.object "java/lang/Object"))), Cond.methodLink RJ7 86 ⟨"java/lang/Object", "getClass", "()Ljava/lang/Class;"⟩, Cond.selects "[Ljava/lang/Object;" ⟨"java/lang/Object", "getClass", "()Ljava/lang/Class;"⟩ ⟨"java/lang/Object", "getClass", "()Ljava/lang/Class;"⟩, Cond.instanceMethod ⟨"java/lang/Object", "getClass", "()Ljava/lang/Class;"⟩, Cond.native ⟨"java/lang/Object", "getClass", "()Ljava/lang/Class;"⟩]
def wsL_rate_r5 : List Cond := [Cond.methodLink RJ7 300 yJ7_copyOf_6403c, Cond.static yJ7_copyOf_6403c, Cond.code yJ7_copyOf_6403c cJ7_copyOf_6403c 4 (some (.array (.object "java/lang/Object"))), Cond.classLink RJ7 110 "[Ljava/lang/Object;", Cond.classLink RJ7 2 "java/lang/Object", Cond.methodLink RJ7 304 Lib.Math.min.name, Cond.static Lib.Math.min.name, Cond.code Lib.Math.min.name Lib.Math.min.code 2 (some .int), Cond.methodLink RJ7 150 arraycopyName, Cond.native arraycopyName, Cond.static arraycopyName, Cond.initialized "java/lang/System"]
def wsL_rate : List Cond := .codeWith yL_rate cL_rate 6 (some .int) [(0, 12, 15, 13), (0, 12, 19, 19)] :: ((wsL_rate_r1 ++ (wsL_rate_r2 ++ (wsL_rate_r3 ++ (wsL_rate_r4 ++ wsL_rate_r5)))) ++ wsX30 ++ wsX20 ++ wsJx4a65c0 ++ (vx_atS RX3 60 "java/lang/IllegalStateException" ["java/lang/RuntimeException", "java/lang/Exception"]).filter goodWord ++ (vx_atS RX3 194 "java/lang/IllegalArgumentException" ["java/lang/RuntimeException", "java/lang/Exception"]).filter goodWord)
def wsL_price : List Cond := .codeWith yL_price cL_price 5 (some .int) [(0, 10, 13, 13)] :: ([.classLink RL 13 "java/lang/IllegalArgumentException", .methodLink RL 45 yX3_price, .instanceMethod yX3_price, .selects RX3 yX3_price yX3_price, .initialized RX3, .code yX3_price cX3_price 4 (some .int), .fieldLink RX3 26 "TakeoffSheet" "prices" "[I", .methodLink RX3 41 yX3_checkRange, .static yX3_checkRange, .code yX3_checkRange cX3_checkRange 3 none, .classLink RX3 190 "java/lang/IllegalArgumentException", .initialized "java/lang/IllegalArgumentException"] ++ wsX30 ++ (vx_atS RX3 194 "java/lang/IllegalArgumentException" ["java/lang/RuntimeException", "java/lang/Exception"]).filter goodWord)
def wsL_rateOf_r1 : List Cond := [Cond.classLink RL 21 "java/lang/IndexOutOfBoundsException", Cond.methodLink RL 48 yX3_rateOf, Cond.instanceMethod yX3_rateOf, Cond.selects RX3 yX3_rateOf yX3_rateOf, Cond.initialized RX3, Cond.code yX3_rateOf cX3_rateOf 2 (some .int), Cond.methodLink RX3 119 yX3_rateAt, Cond.instanceMethod yX3_rateAt, Cond.selects RX3 yX3_rateAt yX3_rateAt, Cond.code yX3_rateAt cX3_rateAt 2 (some (.object "TakeoffSheet$Rate")), Cond.classLink RX3 67 "java/lang/IndexOutOfBoundsException", Cond.initialized "java/lang/IndexOutOfBoundsException", Cond.fieldLink RX3 19 "TakeoffSheet" "rates" "Ljava/util/ArrayList;", Cond.classLink RX3 105 "TakeoffSheet$Rate", Cond.methodLink RX3 98 yJx4a65c_size_8abf5, Cond.instanceMethod yJx4a65c_size_8abf5, Cond.selects RJx4a65c yJx4a65c_size_8abf5 yJx4a65c_size_8abf5, Cond.initialized RJx4a65c, Cond.code yJx4a65c_size_8abf5 cJx4a65c_size_8abf5 1 (some .int), Cond.fieldLink RJx4a65c 48 "java/util/ArrayList" "size" "I", Cond.methodLink RX3 101 yJx4a65c_get_915e3, Cond.instanceMethod yJx4a65c_get_915e3, Cond.selects RJx4a65c yJx4a65c_get_915e3 yJx4a65c_get_915e3, Cond.code yJx4a65c_get_915e3 cJx4a65c_get_915e3 2 (some (.object "java/lang/Object"))]
def wsL_rateOf_r2 : List Cond := [Cond.methodLink RJx4a65c 118 yJ15_checkIndex_7cf53, Cond.static yJ15_checkIndex_7cf53, Cond.initialized RJ15, Cond.code yJ15_checkIndex_7cf53 cJ15_checkIndex_7cf53 2 (some .int), Cond.methodLink RJ15 105 yJ3_checkIndex_8e157, Cond.static yJ3_checkIndex_8e157, Cond.initialized RJ3, Cond.code yJ3_checkIndex_8e157 cJ3_checkIndex_8e157 3 (some .int), Cond.methodLink RJx4a65c 123 yJx4a65c_elementData_915e3, Cond.instanceMethod yJx4a65c_elementData_915e3, Cond.selects RJx4a65c yJx4a65c_elementData_915e3 yJx4a65c_elementData_915e3, Cond.code yJx4a65c_elementData_915e3 cJx4a65c_elementData_915e3 2 (some (.object "java/lang/Object")), Cond.fieldLink RJx4a65c 9 "java/util/ArrayList" "elementData" "[Ljava/lang/Object;", Cond.methodLink RX3 123 yX3_priceOf, Cond.instanceMethod yX3_priceOf, Cond.selects RX3 yX3_priceOf yX3_priceOf, Cond.code yX3_priceOf cX3_priceOf 2 (some .int), Cond.fieldLink RX3 210 "TakeoffSheet$Rate" "labour" "I", Cond.fieldLink RX3 26 "TakeoffSheet" "prices" "[I", Cond.fieldLink RX3 213 "TakeoffSheet$Rate" "plant" "I", Cond.fieldLink RX3 216 "TakeoffSheet$Rate" "material" "I"]
def wsL_rateOf : List Cond := .codeWith yL_rateOf cL_rateOf 4 (some .int) [(0, 9, 12, 21)] :: ((wsL_rateOf_r1 ++ wsL_rateOf_r2) ++ wsX30 ++ wsJx4a65c0 ++ wsX20 ++ (vx_atS RX3 71 "java/lang/IndexOutOfBoundsException" ["java/lang/RuntimeException", "java/lang/Exception"]).filter goodWord)
def wsL_heading_r1 : List Cond := [Cond.classLink RL 21 "java/lang/IndexOutOfBoundsException", Cond.classLink RL 19 "java/lang/IllegalStateException", Cond.methodLink RL 51 yX3_heading, Cond.instanceMethod yX3_heading, Cond.selects RX3 yX3_heading yX3_heading, Cond.initialized RX3, Cond.code yX3_heading cX3_heading 2 (some .int), Cond.methodLink RX3 127 yX3_parentAt, Cond.instanceMethod yX3_parentAt, Cond.selects RX3 yX3_parentAt yX3_parentAt, Cond.code yX3_parentAt cX3_parentAt 2 (some (.object "TakeoffSheet$Item")), Cond.methodLink RX3 135 yX3_itemAt, Cond.instanceMethod yX3_itemAt, Cond.selects RX3 yX3_itemAt yX3_itemAt, Cond.code yX3_itemAt cX3_itemAt 2 (some (.object "TakeoffSheet$Item")), Cond.classLink RX3 67 "java/lang/IndexOutOfBoundsException", Cond.initialized "java/lang/IndexOutOfBoundsException", Cond.fieldLink RX3 23 "TakeoffSheet" "items" "Ljava/util/ArrayList;", Cond.classLink RX3 143 "TakeoffSheet$Item", Cond.methodLink RX3 98 yJx4a65c_size_8abf5, Cond.instanceMethod yJx4a65c_size_8abf5, Cond.selects RJx4a65c yJx4a65c_size_8abf5 yJx4a65c_size_8abf5, Cond.initialized RJx4a65c, Cond.code yJx4a65c_size_8abf5 cJx4a65c_size_8abf5 1 (some .int)]
def wsL_heading_r2 : List Cond := [Cond.fieldLink RJx4a65c 48 "java/util/ArrayList" "size" "I", Cond.methodLink RX3 101 yJx4a65c_get_915e3, Cond.instanceMethod yJx4a65c_get_915e3, Cond.selects RJx4a65c yJx4a65c_get_915e3 yJx4a65c_get_915e3, Cond.code yJx4a65c_get_915e3 cJx4a65c_get_915e3 2 (some (.object "java/lang/Object")), Cond.methodLink RJx4a65c 118 yJ15_checkIndex_7cf53, Cond.static yJ15_checkIndex_7cf53, Cond.initialized RJ15, Cond.code yJ15_checkIndex_7cf53 cJ15_checkIndex_7cf53 2 (some .int), Cond.methodLink RJ15 105 yJ3_checkIndex_8e157, Cond.static yJ3_checkIndex_8e157, Cond.initialized RJ3, Cond.code yJ3_checkIndex_8e157 cJ3_checkIndex_8e157 3 (some .int), Cond.methodLink RJx4a65c 123 yJx4a65c_elementData_915e3, Cond.instanceMethod yJx4a65c_elementData_915e3, Cond.selects RJx4a65c yJx4a65c_elementData_915e3 yJx4a65c_elementData_915e3, Cond.code yJx4a65c_elementData_915e3 cJx4a65c_elementData_915e3 2 (some (.object "java/lang/Object")), Cond.fieldLink RJx4a65c 9 "java/util/ArrayList" "elementData" "[Ljava/lang/Object;", Cond.methodLink RX3 131 yX3_addItem, Cond.instanceMethod yX3_addItem, Cond.selects RX3 yX3_addItem yX3_addItem, Cond.code yX3_addItem cX3_addItem 4 (some .int), Cond.classLink RX3 56 "java/lang/IllegalStateException", Cond.initialized "java/lang/IllegalStateException"]
def wsL_heading_r3 : List Cond := [Cond.classLink RX3 143 RX1, Cond.instantiable RX1 6, Cond.initialized RX1, Cond.methodLink RX3 169 yX1_isLeaf, Cond.instanceMethod yX1_isLeaf, Cond.selects RX1 yX1_isLeaf yX1_isLeaf, Cond.code yX1_isLeaf cX1_isLeaf 1 (some .boolean), Cond.fieldLink RX1 15 "TakeoffSheet$Item" "rate" "LTakeoffSheet$Rate;", Cond.methodLink RX3 207 yX1_init, Cond.instanceMethod yX1_init, Cond.code yX1_init cX1_init 4 none, Cond.methodLink RX1 3 objectInit, Cond.instanceMethod objectInit, Cond.code objectInit ⟨#[0xb1]⟩ 1 none, Cond.fieldLink RX1 9 "TakeoffSheet$Item" "parent" "LTakeoffSheet$Item;", Cond.fieldLink RX1 19 "TakeoffSheet$Item" "waste" "I", Cond.methodLink RX3 115 yJx4a65c_add_9ea2d, Cond.instanceMethod yJx4a65c_add_9ea2d, Cond.selects RJx4a65c yJx4a65c_add_9ea2d yJx4a65c_add_9ea2d, Cond.code yJx4a65c_add_9ea2d cJx4a65c_add_9ea2d 2 (some .boolean), Cond.fieldLink RJx4a65c 63 "java/util/ArrayList" "modCount" "I", Cond.sameField "java/util/ArrayList" "java/util/AbstractList" "modCount" "I", Cond.methodLink RJx4a65c 131 yJx4a65c_add_72be8, Cond.instanceMethod yJx4a65c_add_72be8]
def wsL_heading_r4 : List Cond := [Cond.selects RJx4a65c yJx4a65c_add_72be8 yJx4a65c_add_72be8, Cond.code yJx4a65c_add_72be8 cJx4a65c_add_72be8 4 none, Cond.methodLink RJx4a65c 129 yJx4a65c_grow_d5877, Cond.instanceMethod yJx4a65c_grow_d5877, Cond.selects RJx4a65c yJx4a65c_grow_d5877 yJx4a65c_grow_d5877, Cond.code yJx4a65c_grow_d5877 cJx4a65c_grow_d5877 1 (some (.array (.object "java/lang/Object"))), Cond.methodLink RJx4a65c 69 yJx4a65c_grow_92f84, Cond.instanceMethod yJx4a65c_grow_92f84, Cond.selects RJx4a65c yJx4a65c_grow_92f84 yJx4a65c_grow_92f84, Cond.code yJx4a65c_grow_92f84 cJx4a65c_grow_92f84 4 (some (.array (.object "java/lang/Object"))), Cond.fieldLink RJx4a65c 39 "java/util/ArrayList" "DEFAULTCAPACITY_EMPTY_ELEMENTDATA" "[Ljava/lang/Object;", Cond.methodLink RJx4a65c 79 Lib.Math.max.name, Cond.static Lib.Math.max.name, Cond.initialized "java/lang/Math", Cond.code Lib.Math.max.name Lib.Math.max.code 2 (some .int), Cond.classLink RJx4a65c 7 "java/lang/Object", Cond.methodLink RJx4a65c 73 yJ8_newLength_cabcc, Cond.static yJ8_newLength_cabcc, Cond.initialized RJ8, Cond.code yJ8_newLength_cabcc cJ8_newLength_cabcc 4 (some .int), Cond.methodLink RJ8 194 Lib.Math.max.name, Cond.constant RJ8 200 (2147483639), Cond.methodLink RJ8 201 yJ8_hugeLength_7cf53, Cond.static yJ8_hugeLength_7cf53]
def wsL_heading_r5 : List Cond := [Cond.code yJ8_hugeLength_7cf53 cJ8_hugeLength_7cf53 3 (some .int), Cond.methodLink RJx4a65c 66 yJ7_copyOf_1904c, Cond.static yJ7_copyOf_1904c, Cond.initialized RJ7, Cond.code yJ7_copyOf_1904c cJ7_copyOf_1904c 2 (some (.array (.object "java/lang/Object"))), Cond.methodLink RJ7 86 ⟨"java/lang/Object", "getClass", "()Ljava/lang/Class;"⟩, Cond.selects "[Ljava/lang/Object;" ⟨"java/lang/Object", "getClass", "()Ljava/lang/Class;"⟩ ⟨"java/lang/Object", "getClass", "()Ljava/lang/Class;"⟩, Cond.instanceMethod ⟨"java/lang/Object", "getClass", "()Ljava/lang/Class;"⟩, Cond.native ⟨"java/lang/Object", "getClass", "()Ljava/lang/Class;"⟩, Cond.methodLink RJ7 300 yJ7_copyOf_6403c, Cond.static yJ7_copyOf_6403c, Cond.code yJ7_copyOf_6403c cJ7_copyOf_6403c 4 (some (.array (.object "java/lang/Object"))), Cond.classLink RJ7 110 "[Ljava/lang/Object;", Cond.classLink RJ7 2 "java/lang/Object", Cond.methodLink RJ7 304 Lib.Math.min.name, Cond.static Lib.Math.min.name, Cond.code Lib.Math.min.name Lib.Math.min.code 2 (some .int), Cond.methodLink RJ7 150 arraycopyName, Cond.native arraycopyName, Cond.static arraycopyName, Cond.initialized "java/lang/System"]
def wsL_heading : List Cond := .codeWith yL_heading cL_heading 4 (some .int) [(0, 9, 12, 21), (0, 9, 15, 19)] :: ((wsL_heading_r1 ++ (wsL_heading_r2 ++ (wsL_heading_r3 ++ (wsL_heading_r4 ++ wsL_heading_r5)))) ++ wsX30 ++ wsJx4a65c0 ++ wsX10 ++ (vx_atS RX3 71 "java/lang/IndexOutOfBoundsException" ["java/lang/RuntimeException", "java/lang/Exception"]).filter goodWord ++ (vx_atS RX3 60 "java/lang/IllegalStateException" ["java/lang/RuntimeException", "java/lang/Exception"]).filter goodWord)
def wsL_leaf_r1 : List Cond := [Cond.classLink RL 21 "java/lang/IndexOutOfBoundsException", Cond.classLink RL 13 "java/lang/IllegalArgumentException", Cond.classLink RL 19 "java/lang/IllegalStateException", Cond.methodLink RL 54 yX3_leaf, Cond.instanceMethod yX3_leaf, Cond.selects RX3 yX3_leaf yX3_leaf, Cond.initialized RX3, Cond.code yX3_leaf cX3_leaf 6 (some .int), Cond.methodLink RX3 127 yX3_parentAt, Cond.instanceMethod yX3_parentAt, Cond.selects RX3 yX3_parentAt yX3_parentAt, Cond.code yX3_parentAt cX3_parentAt 2 (some (.object "TakeoffSheet$Item")), Cond.methodLink RX3 135 yX3_itemAt, Cond.instanceMethod yX3_itemAt, Cond.selects RX3 yX3_itemAt yX3_itemAt, Cond.code yX3_itemAt cX3_itemAt 2 (some (.object "TakeoffSheet$Item")), Cond.classLink RX3 67 "java/lang/IndexOutOfBoundsException", Cond.initialized "java/lang/IndexOutOfBoundsException", Cond.fieldLink RX3 23 "TakeoffSheet" "items" "Ljava/util/ArrayList;", Cond.classLink RX3 143 "TakeoffSheet$Item", Cond.methodLink RX3 98 yJx4a65c_size_8abf5, Cond.instanceMethod yJx4a65c_size_8abf5, Cond.selects RJx4a65c yJx4a65c_size_8abf5 yJx4a65c_size_8abf5, Cond.initialized RJx4a65c]
def wsL_leaf_r2 : List Cond := [Cond.code yJx4a65c_size_8abf5 cJx4a65c_size_8abf5 1 (some .int), Cond.fieldLink RJx4a65c 48 "java/util/ArrayList" "size" "I", Cond.methodLink RX3 101 yJx4a65c_get_915e3, Cond.instanceMethod yJx4a65c_get_915e3, Cond.selects RJx4a65c yJx4a65c_get_915e3 yJx4a65c_get_915e3, Cond.code yJx4a65c_get_915e3 cJx4a65c_get_915e3 2 (some (.object "java/lang/Object")), Cond.methodLink RJx4a65c 118 yJ15_checkIndex_7cf53, Cond.static yJ15_checkIndex_7cf53, Cond.initialized RJ15, Cond.code yJ15_checkIndex_7cf53 cJ15_checkIndex_7cf53 2 (some .int), Cond.methodLink RJ15 105 yJ3_checkIndex_8e157, Cond.static yJ3_checkIndex_8e157, Cond.initialized RJ3, Cond.code yJ3_checkIndex_8e157 cJ3_checkIndex_8e157 3 (some .int), Cond.methodLink RJx4a65c 123 yJx4a65c_elementData_915e3, Cond.instanceMethod yJx4a65c_elementData_915e3, Cond.selects RJx4a65c yJx4a65c_elementData_915e3 yJx4a65c_elementData_915e3, Cond.code yJx4a65c_elementData_915e3 cJx4a65c_elementData_915e3 2 (some (.object "java/lang/Object")), Cond.fieldLink RJx4a65c 9 "java/util/ArrayList" "elementData" "[Ljava/lang/Object;", Cond.methodLink RX3 119 yX3_rateAt, Cond.instanceMethod yX3_rateAt, Cond.selects RX3 yX3_rateAt yX3_rateAt, Cond.code yX3_rateAt cX3_rateAt 2 (some (.object "TakeoffSheet$Rate")), Cond.fieldLink RX3 19 "TakeoffSheet" "rates" "Ljava/util/ArrayList;"]
def wsL_leaf_r3 : List Cond := [Cond.classLink RX3 105 "TakeoffSheet$Rate", Cond.methodLink RX3 41 yX3_checkRange, Cond.static yX3_checkRange, Cond.code yX3_checkRange cX3_checkRange 3 none, Cond.classLink RX3 190 "java/lang/IllegalArgumentException", Cond.initialized "java/lang/IllegalArgumentException", Cond.methodLink RX3 131 yX3_addItem, Cond.instanceMethod yX3_addItem, Cond.selects RX3 yX3_addItem yX3_addItem, Cond.code yX3_addItem cX3_addItem 4 (some .int), Cond.classLink RX3 56 "java/lang/IllegalStateException", Cond.initialized "java/lang/IllegalStateException", Cond.classLink RX3 143 RX1, Cond.instantiable RX1 6, Cond.initialized RX1, Cond.methodLink RX3 169 yX1_isLeaf, Cond.instanceMethod yX1_isLeaf, Cond.selects RX1 yX1_isLeaf yX1_isLeaf, Cond.code yX1_isLeaf cX1_isLeaf 1 (some .boolean), Cond.fieldLink RX1 15 "TakeoffSheet$Item" "rate" "LTakeoffSheet$Rate;", Cond.methodLink RX3 207 yX1_init, Cond.instanceMethod yX1_init, Cond.code yX1_init cX1_init 4 none, Cond.methodLink RX1 3 objectInit]
def wsL_leaf_r4 : List Cond := [Cond.instanceMethod objectInit, Cond.code objectInit ⟨#[0xb1]⟩ 1 none, Cond.fieldLink RX1 9 "TakeoffSheet$Item" "parent" "LTakeoffSheet$Item;", Cond.fieldLink RX1 19 "TakeoffSheet$Item" "waste" "I", Cond.methodLink RX3 115 yJx4a65c_add_9ea2d, Cond.instanceMethod yJx4a65c_add_9ea2d, Cond.selects RJx4a65c yJx4a65c_add_9ea2d yJx4a65c_add_9ea2d, Cond.code yJx4a65c_add_9ea2d cJx4a65c_add_9ea2d 2 (some .boolean), Cond.fieldLink RJx4a65c 63 "java/util/ArrayList" "modCount" "I", Cond.sameField "java/util/ArrayList" "java/util/AbstractList" "modCount" "I", Cond.methodLink RJx4a65c 131 yJx4a65c_add_72be8, Cond.instanceMethod yJx4a65c_add_72be8, Cond.selects RJx4a65c yJx4a65c_add_72be8 yJx4a65c_add_72be8, Cond.code yJx4a65c_add_72be8 cJx4a65c_add_72be8 4 none, Cond.methodLink RJx4a65c 129 yJx4a65c_grow_d5877, Cond.instanceMethod yJx4a65c_grow_d5877, Cond.selects RJx4a65c yJx4a65c_grow_d5877 yJx4a65c_grow_d5877, Cond.code yJx4a65c_grow_d5877 cJx4a65c_grow_d5877 1 (some (.array (.object "java/lang/Object"))), Cond.methodLink RJx4a65c 69 yJx4a65c_grow_92f84, Cond.instanceMethod yJx4a65c_grow_92f84, Cond.selects RJx4a65c yJx4a65c_grow_92f84 yJx4a65c_grow_92f84, Cond.code yJx4a65c_grow_92f84 cJx4a65c_grow_92f84 4 (some (.array (.object "java/lang/Object"))), Cond.fieldLink RJx4a65c 39 "java/util/ArrayList" "DEFAULTCAPACITY_EMPTY_ELEMENTDATA" "[Ljava/lang/Object;", Cond.methodLink RJx4a65c 79 Lib.Math.max.name]
def wsL_leaf_r5 : List Cond := [Cond.static Lib.Math.max.name, Cond.initialized "java/lang/Math", Cond.code Lib.Math.max.name Lib.Math.max.code 2 (some .int), Cond.classLink RJx4a65c 7 "java/lang/Object", Cond.methodLink RJx4a65c 73 yJ8_newLength_cabcc, Cond.static yJ8_newLength_cabcc, Cond.initialized RJ8, Cond.code yJ8_newLength_cabcc cJ8_newLength_cabcc 4 (some .int), Cond.methodLink RJ8 194 Lib.Math.max.name, Cond.constant RJ8 200 (2147483639), Cond.methodLink RJ8 201 yJ8_hugeLength_7cf53, Cond.static yJ8_hugeLength_7cf53, Cond.code yJ8_hugeLength_7cf53 cJ8_hugeLength_7cf53 3 (some .int), Cond.methodLink RJx4a65c 66 yJ7_copyOf_1904c, Cond.static yJ7_copyOf_1904c, Cond.initialized RJ7, Cond.code yJ7_copyOf_1904c cJ7_copyOf_1904c 2 (some (.array (.object "java/lang/Object"))), Cond.methodLink RJ7 86 ⟨"java/lang/Object", "getClass", "()Ljava/lang/Class;"⟩, Cond.selects "[Ljava/lang/Object;" ⟨"java/lang/Object", "getClass", "()Ljava/lang/Class;"⟩ ⟨"java/lang/Object", "getClass", "()Ljava/lang/Class;"⟩, Cond.instanceMethod ⟨"java/lang/Object", "getClass", "()Ljava/lang/Class;"⟩, Cond.native ⟨"java/lang/Object", "getClass", "()Ljava/lang/Class;"⟩, Cond.methodLink RJ7 300 yJ7_copyOf_6403c, Cond.static yJ7_copyOf_6403c, Cond.code yJ7_copyOf_6403c cJ7_copyOf_6403c 4 (some (.array (.object "java/lang/Object")))]
def wsL_leaf_r6 : List Cond := [Cond.classLink RJ7 110 "[Ljava/lang/Object;", Cond.classLink RJ7 2 "java/lang/Object", Cond.methodLink RJ7 304 Lib.Math.min.name, Cond.static Lib.Math.min.name, Cond.code Lib.Math.min.name Lib.Math.min.code 2 (some .int), Cond.methodLink RJ7 150 arraycopyName, Cond.native arraycopyName, Cond.static arraycopyName, Cond.initialized "java/lang/System"]
def wsL_leaf : List Cond := .codeWith yL_leaf cL_leaf 6 (some .int) [(0, 12, 15, 21), (0, 12, 19, 13), (0, 12, 23, 19)] :: ((wsL_leaf_r1 ++ (wsL_leaf_r2 ++ (wsL_leaf_r3 ++ (wsL_leaf_r4 ++ (wsL_leaf_r5 ++ wsL_leaf_r6))))) ++ wsX30 ++ wsJx4a65c0 ++ wsX10 ++ (vx_atS RX3 71 "java/lang/IndexOutOfBoundsException" ["java/lang/RuntimeException", "java/lang/Exception"]).filter goodWord ++ (vx_atS RX3 194 "java/lang/IllegalArgumentException" ["java/lang/RuntimeException", "java/lang/Exception"]).filter goodWord ++ (vx_atS RX3 60 "java/lang/IllegalStateException" ["java/lang/RuntimeException", "java/lang/Exception"]).filter goodWord)
def wsL_take_r1 : List Cond := [Cond.classLink RL 21 "java/lang/IndexOutOfBoundsException", Cond.classLink RL 13 "java/lang/IllegalArgumentException", Cond.classLink RL 19 "java/lang/IllegalStateException", Cond.methodLink RL 57 yX3_take, Cond.instanceMethod yX3_take, Cond.selects RX3 yX3_take yX3_take, Cond.initialized RX3, Cond.code yX3_take cX3_take 4 (some .int), Cond.fieldLink RX3 142 "TakeoffSheet$Item" "measure" "I", Cond.fieldLink RX3 10 "TakeoffSheet" "drawing" "LTakeoffSheet$Drawing;", Cond.fieldLink RX3 30 "TakeoffSheet" "limit" "I", Cond.methodLink RX3 135 yX3_itemAt, Cond.instanceMethod yX3_itemAt, Cond.selects RX3 yX3_itemAt yX3_itemAt, Cond.code yX3_itemAt cX3_itemAt 2 (some (.object "TakeoffSheet$Item")), Cond.classLink RX3 67 "java/lang/IndexOutOfBoundsException", Cond.initialized "java/lang/IndexOutOfBoundsException", Cond.fieldLink RX3 23 "TakeoffSheet" "items" "Ljava/util/ArrayList;", Cond.classLink RX3 143 "TakeoffSheet$Item", Cond.methodLink RX3 98 yJx4a65c_size_8abf5, Cond.instanceMethod yJx4a65c_size_8abf5, Cond.selects RJx4a65c yJx4a65c_size_8abf5 yJx4a65c_size_8abf5, Cond.initialized RJx4a65c, Cond.code yJx4a65c_size_8abf5 cJx4a65c_size_8abf5 1 (some .int)]
def wsL_take_r2 : List Cond := [Cond.fieldLink RJx4a65c 48 "java/util/ArrayList" "size" "I", Cond.methodLink RX3 101 yJx4a65c_get_915e3, Cond.instanceMethod yJx4a65c_get_915e3, Cond.selects RJx4a65c yJx4a65c_get_915e3 yJx4a65c_get_915e3, Cond.code yJx4a65c_get_915e3 cJx4a65c_get_915e3 2 (some (.object "java/lang/Object")), Cond.methodLink RJx4a65c 118 yJ15_checkIndex_7cf53, Cond.static yJ15_checkIndex_7cf53, Cond.initialized RJ15, Cond.code yJ15_checkIndex_7cf53 cJ15_checkIndex_7cf53 2 (some .int), Cond.methodLink RJ15 105 yJ3_checkIndex_8e157, Cond.static yJ3_checkIndex_8e157, Cond.initialized RJ3, Cond.code yJ3_checkIndex_8e157 cJ3_checkIndex_8e157 3 (some .int), Cond.methodLink RJx4a65c 123 yJx4a65c_elementData_915e3, Cond.instanceMethod yJx4a65c_elementData_915e3, Cond.selects RJx4a65c yJx4a65c_elementData_915e3 yJx4a65c_elementData_915e3, Cond.code yJx4a65c_elementData_915e3 cJx4a65c_elementData_915e3 2 (some (.object "java/lang/Object")), Cond.fieldLink RJx4a65c 9 "java/util/ArrayList" "elementData" "[Ljava/lang/Object;", Cond.methodLink RX3 41 yX3_checkRange, Cond.static yX3_checkRange, Cond.code yX3_checkRange cX3_checkRange 3 none, Cond.classLink RX3 190 "java/lang/IllegalArgumentException", Cond.initialized "java/lang/IllegalArgumentException", Cond.methodLink RX3 138 yX3_checkLeaf]
def wsL_take_r3 : List Cond := [Cond.static yX3_checkLeaf, Cond.code yX3_checkLeaf cX3_checkLeaf 1 none, Cond.classLink RX3 56 "java/lang/IllegalStateException", Cond.initialized "java/lang/IllegalStateException", Cond.methodLink RX3 169 yX1_isLeaf, Cond.instanceMethod yX1_isLeaf, Cond.selects RX1 yX1_isLeaf yX1_isLeaf, Cond.initialized RX1, Cond.code yX1_isLeaf cX1_isLeaf 1 (some .boolean), Cond.fieldLink RX1 15 "TakeoffSheet$Item" "rate" "LTakeoffSheet$Rate;", Cond.methodLink RX3 75 yX3_checkClosed, Cond.instanceMethod yX3_checkClosed, Cond.selects RX3 yX3_checkClosed yX3_checkClosed, Cond.code yX3_checkClosed cX3_checkClosed 1 none, Cond.fieldLink RX3 53 "TakeoffSheet$Drawing" "closed" "Z", Cond.methodLink RX3 94 yX0_areaLeft, Cond.instanceMethod yX0_areaLeft, Cond.selects RX0 yX0_areaLeft yX0_areaLeft, Cond.initialized RX0, Cond.code yX0_areaLeft cX0_areaLeft 4 (some .int), Cond.fieldLink RX0 18 "TakeoffSheet$Drawing" "openings" "[I", Cond.methodLink RX0 84 Lib.Math.max.name, Cond.static Lib.Math.max.name, Cond.initialized "java/lang/Math"]
def wsL_take_r4 : List Cond := [Cond.code Lib.Math.max.name Lib.Math.max.code 2 (some .int), Cond.methodLink RX0 93 yX0_areaByCorners, Cond.instanceMethod yX0_areaByCorners, Cond.selects RX0 yX0_areaByCorners yX0_areaByCorners, Cond.code yX0_areaByCorners cX0_areaByCorners 1 (some .int), Cond.fieldLink RX0 38 "TakeoffSheet$Drawing" "twiceArea" "I", Cond.methodLink RX0 87 Lib.Math.abs.name, Cond.static Lib.Math.abs.name, Cond.code Lib.Math.abs.name Lib.Math.abs.code 1 (some .int), Cond.methodLink RX3 147 yX0_takeAway, Cond.instanceMethod yX0_takeAway, Cond.selects RX0 yX0_takeAway yX0_takeAway, Cond.code yX0_takeAway cX0_takeAway 1 none, Cond.fieldLink RX0 57 "TakeoffSheet$Drawing" "begun" "Z", Cond.fieldLink RX0 61 "TakeoffSheet$Drawing" "closed" "Z"]
def wsL_take : List Cond := .codeWith yL_take cL_take 5 (some .int) [(0, 10, 13, 21), (0, 10, 17, 13), (0, 10, 21, 19)] :: ((wsL_take_r1 ++ (wsL_take_r2 ++ (wsL_take_r3 ++ wsL_take_r4))) ++ wsX10 ++ wsX30 ++ wsJx4a65c0 ++ wsX00 ++ (vx_atS RX3 71 "java/lang/IndexOutOfBoundsException" ["java/lang/RuntimeException", "java/lang/Exception"]).filter goodWord ++ (vx_atS RX3 194 "java/lang/IllegalArgumentException" ["java/lang/RuntimeException", "java/lang/Exception"]).filter goodWord ++ (vx_atS RX3 60 "java/lang/IllegalStateException" ["java/lang/RuntimeException", "java/lang/Exception"]).filter goodWord)
def wsL_vary_r1 : List Cond := [Cond.classLink RL 21 "java/lang/IndexOutOfBoundsException", Cond.classLink RL 13 "java/lang/IllegalArgumentException", Cond.classLink RL 19 "java/lang/IllegalStateException", Cond.methodLink RL 60 yX3_vary, Cond.instanceMethod yX3_vary, Cond.selects RX3 yX3_vary yX3_vary, Cond.initialized RX3, Cond.code yX3_vary cX3_vary 5 (some .int), Cond.classLink RX3 56 "java/lang/IllegalStateException", Cond.initialized "java/lang/IllegalStateException", Cond.fieldLink RX3 150 "TakeoffSheet$Item" "variation" "I", Cond.methodLink RX3 135 yX3_itemAt, Cond.instanceMethod yX3_itemAt, Cond.selects RX3 yX3_itemAt yX3_itemAt, Cond.code yX3_itemAt cX3_itemAt 2 (some (.object "TakeoffSheet$Item")), Cond.classLink RX3 67 "java/lang/IndexOutOfBoundsException", Cond.initialized "java/lang/IndexOutOfBoundsException", Cond.fieldLink RX3 23 "TakeoffSheet" "items" "Ljava/util/ArrayList;", Cond.classLink RX3 143 "TakeoffSheet$Item", Cond.methodLink RX3 98 yJx4a65c_size_8abf5, Cond.instanceMethod yJx4a65c_size_8abf5, Cond.selects RJx4a65c yJx4a65c_size_8abf5 yJx4a65c_size_8abf5, Cond.initialized RJx4a65c, Cond.code yJx4a65c_size_8abf5 cJx4a65c_size_8abf5 1 (some .int)]
def wsL_vary_r2 : List Cond := [Cond.fieldLink RJx4a65c 48 "java/util/ArrayList" "size" "I", Cond.methodLink RX3 101 yJx4a65c_get_915e3, Cond.instanceMethod yJx4a65c_get_915e3, Cond.selects RJx4a65c yJx4a65c_get_915e3 yJx4a65c_get_915e3, Cond.code yJx4a65c_get_915e3 cJx4a65c_get_915e3 2 (some (.object "java/lang/Object")), Cond.methodLink RJx4a65c 118 yJ15_checkIndex_7cf53, Cond.static yJ15_checkIndex_7cf53, Cond.initialized RJ15, Cond.code yJ15_checkIndex_7cf53 cJ15_checkIndex_7cf53 2 (some .int), Cond.methodLink RJ15 105 yJ3_checkIndex_8e157, Cond.static yJ3_checkIndex_8e157, Cond.initialized RJ3, Cond.code yJ3_checkIndex_8e157 cJ3_checkIndex_8e157 3 (some .int), Cond.methodLink RJx4a65c 123 yJx4a65c_elementData_915e3, Cond.instanceMethod yJx4a65c_elementData_915e3, Cond.selects RJx4a65c yJx4a65c_elementData_915e3 yJx4a65c_elementData_915e3, Cond.code yJx4a65c_elementData_915e3 cJx4a65c_elementData_915e3 2 (some (.object "java/lang/Object")), Cond.fieldLink RJx4a65c 9 "java/util/ArrayList" "elementData" "[Ljava/lang/Object;", Cond.methodLink RX3 41 yX3_checkRange, Cond.static yX3_checkRange, Cond.code yX3_checkRange cX3_checkRange 3 none, Cond.classLink RX3 190 "java/lang/IllegalArgumentException", Cond.initialized "java/lang/IllegalArgumentException", Cond.methodLink RX3 138 yX3_checkLeaf]
def wsL_vary_r3 : List Cond := [Cond.static yX3_checkLeaf, Cond.code yX3_checkLeaf cX3_checkLeaf 1 none, Cond.methodLink RX3 169 yX1_isLeaf, Cond.instanceMethod yX1_isLeaf, Cond.selects RX1 yX1_isLeaf yX1_isLeaf, Cond.initialized RX1, Cond.code yX1_isLeaf cX1_isLeaf 1 (some .boolean), Cond.fieldLink RX1 15 "TakeoffSheet$Item" "rate" "LTakeoffSheet$Rate;"]
def wsL_vary : List Cond := .codeWith yL_vary cL_vary 5 (some .int) [(0, 10, 13, 21), (0, 10, 17, 13), (0, 10, 21, 19)] :: ((wsL_vary_r1 ++ (wsL_vary_r2 ++ wsL_vary_r3)) ++ wsX10 ++ wsX30 ++ wsJx4a65c0 ++ (vx_atS RX3 60 "java/lang/IllegalStateException" ["java/lang/RuntimeException", "java/lang/Exception"]).filter goodWord ++ (vx_atS RX3 71 "java/lang/IndexOutOfBoundsException" ["java/lang/RuntimeException", "java/lang/Exception"]).filter goodWord ++ (vx_atS RX3 194 "java/lang/IllegalArgumentException" ["java/lang/RuntimeException", "java/lang/Exception"]).filter goodWord)
def wsL_quantity_r1 : List Cond := [Cond.classLink RL 21 "java/lang/IndexOutOfBoundsException", Cond.classLink RL 19 "java/lang/IllegalStateException", Cond.methodLink RL 63 yX3_quantity, Cond.instanceMethod yX3_quantity, Cond.selects RX3 yX3_quantity yX3_quantity, Cond.initialized RX3, Cond.code yX3_quantity cX3_quantity 3 (some .int), Cond.methodLink RX3 135 yX3_itemAt, Cond.instanceMethod yX3_itemAt, Cond.selects RX3 yX3_itemAt yX3_itemAt, Cond.code yX3_itemAt cX3_itemAt 2 (some (.object "TakeoffSheet$Item")), Cond.classLink RX3 67 "java/lang/IndexOutOfBoundsException", Cond.initialized "java/lang/IndexOutOfBoundsException", Cond.fieldLink RX3 23 "TakeoffSheet" "items" "Ljava/util/ArrayList;", Cond.classLink RX3 143 "TakeoffSheet$Item", Cond.methodLink RX3 98 yJx4a65c_size_8abf5, Cond.instanceMethod yJx4a65c_size_8abf5, Cond.selects RJx4a65c yJx4a65c_size_8abf5 yJx4a65c_size_8abf5, Cond.initialized RJx4a65c, Cond.code yJx4a65c_size_8abf5 cJx4a65c_size_8abf5 1 (some .int), Cond.fieldLink RJx4a65c 48 "java/util/ArrayList" "size" "I", Cond.methodLink RX3 101 yJx4a65c_get_915e3, Cond.instanceMethod yJx4a65c_get_915e3, Cond.selects RJx4a65c yJx4a65c_get_915e3 yJx4a65c_get_915e3]
def wsL_quantity_r2 : List Cond := [Cond.code yJx4a65c_get_915e3 cJx4a65c_get_915e3 2 (some (.object "java/lang/Object")), Cond.methodLink RJx4a65c 118 yJ15_checkIndex_7cf53, Cond.static yJ15_checkIndex_7cf53, Cond.initialized RJ15, Cond.code yJ15_checkIndex_7cf53 cJ15_checkIndex_7cf53 2 (some .int), Cond.methodLink RJ15 105 yJ3_checkIndex_8e157, Cond.static yJ3_checkIndex_8e157, Cond.initialized RJ3, Cond.code yJ3_checkIndex_8e157 cJ3_checkIndex_8e157 3 (some .int), Cond.methodLink RJx4a65c 123 yJx4a65c_elementData_915e3, Cond.instanceMethod yJx4a65c_elementData_915e3, Cond.selects RJx4a65c yJx4a65c_elementData_915e3 yJx4a65c_elementData_915e3, Cond.code yJx4a65c_elementData_915e3 cJx4a65c_elementData_915e3 2 (some (.object "java/lang/Object")), Cond.fieldLink RJx4a65c 9 "java/util/ArrayList" "elementData" "[Ljava/lang/Object;", Cond.methodLink RX3 138 yX3_checkLeaf, Cond.static yX3_checkLeaf, Cond.code yX3_checkLeaf cX3_checkLeaf 1 none, Cond.classLink RX3 56 "java/lang/IllegalStateException", Cond.initialized "java/lang/IllegalStateException", Cond.methodLink RX3 169 yX1_isLeaf, Cond.instanceMethod yX1_isLeaf, Cond.selects RX1 yX1_isLeaf yX1_isLeaf, Cond.initialized RX1, Cond.code yX1_isLeaf cX1_isLeaf 1 (some .boolean)]
def wsL_quantity_r3 : List Cond := [Cond.fieldLink RX1 15 "TakeoffSheet$Item" "rate" "LTakeoffSheet$Rate;", Cond.methodLink RX3 155 yX1_measureWithWaste, Cond.instanceMethod yX1_measureWithWaste, Cond.selects RX1 yX1_measureWithWaste yX1_measureWithWaste, Cond.code yX1_measureWithWaste cX1_measureWithWaste 1 (some .long), Cond.fieldLink RX1 23 "TakeoffSheet$Item" "measure" "I", Cond.fieldLink RX1 19 "TakeoffSheet$Item" "waste" "I", Cond.static yX3_hundredthsRoundedUp, Cond.code yX3_hundredthsRoundedUp cX3_hundredthsRoundedUp 2 (some .long), Cond.constantLong RX3 176 (100)]
def wsL_quantity : List Cond := .codeWith yL_quantity cL_quantity 4 (some .int) [(0, 9, 12, 21), (0, 9, 15, 19)] :: ((wsL_quantity_r1 ++ (wsL_quantity_r2 ++ wsL_quantity_r3)) ++ wsX30 ++ wsJx4a65c0 ++ wsX10 ++ (vx_atS RX3 71 "java/lang/IndexOutOfBoundsException" ["java/lang/RuntimeException", "java/lang/Exception"]).filter goodWord ++ (vx_atS RX3 60 "java/lang/IllegalStateException" ["java/lang/RuntimeException", "java/lang/Exception"]).filter goodWord)
def wsL_sum_r1 : List Cond := [Cond.classLink RL 21 "java/lang/IndexOutOfBoundsException", Cond.methodLink RL 66 yX3_sum, Cond.instanceMethod yX3_sum, Cond.selects RX3 yX3_sum yX3_sum, Cond.initialized RX3, Cond.code yX3_sum cX3_sum 7 (some .long), Cond.fieldLink RX3 23 "TakeoffSheet" "items" "Ljava/util/ArrayList;", Cond.classLink RX3 143 "TakeoffSheet$Item", Cond.methodLink RX3 135 yX3_itemAt, Cond.instanceMethod yX3_itemAt, Cond.selects RX3 yX3_itemAt yX3_itemAt, Cond.code yX3_itemAt cX3_itemAt 2 (some (.object "TakeoffSheet$Item")), Cond.classLink RX3 67 "java/lang/IndexOutOfBoundsException", Cond.initialized "java/lang/IndexOutOfBoundsException", Cond.methodLink RX3 98 yJx4a65c_size_8abf5, Cond.instanceMethod yJx4a65c_size_8abf5, Cond.selects RJx4a65c yJx4a65c_size_8abf5 yJx4a65c_size_8abf5, Cond.initialized RJx4a65c, Cond.code yJx4a65c_size_8abf5 cJx4a65c_size_8abf5 1 (some .int), Cond.fieldLink RJx4a65c 48 "java/util/ArrayList" "size" "I", Cond.methodLink RX3 101 yJx4a65c_get_915e3, Cond.instanceMethod yJx4a65c_get_915e3, Cond.selects RJx4a65c yJx4a65c_get_915e3 yJx4a65c_get_915e3, Cond.code yJx4a65c_get_915e3 cJx4a65c_get_915e3 2 (some (.object "java/lang/Object"))]
def wsL_sum_r2 : List Cond := [Cond.methodLink RJx4a65c 118 yJ15_checkIndex_7cf53, Cond.static yJ15_checkIndex_7cf53, Cond.initialized RJ15, Cond.code yJ15_checkIndex_7cf53 cJ15_checkIndex_7cf53 2 (some .int), Cond.methodLink RJ15 105 yJ3_checkIndex_8e157, Cond.static yJ3_checkIndex_8e157, Cond.initialized RJ3, Cond.code yJ3_checkIndex_8e157 cJ3_checkIndex_8e157 3 (some .int), Cond.methodLink RJx4a65c 123 yJx4a65c_elementData_915e3, Cond.instanceMethod yJx4a65c_elementData_915e3, Cond.selects RJx4a65c yJx4a65c_elementData_915e3 yJx4a65c_elementData_915e3, Cond.code yJx4a65c_elementData_915e3 cJx4a65c_elementData_915e3 2 (some (.object "java/lang/Object")), Cond.fieldLink RJx4a65c 9 "java/util/ArrayList" "elementData" "[Ljava/lang/Object;", Cond.methodLink RX3 159 yX1_standsUnder, Cond.instanceMethod yX1_standsUnder, Cond.selects RX1 yX1_standsUnder yX1_standsUnder, Cond.initialized RX1, Cond.code yX1_standsUnder cX1_standsUnder 3 (some .boolean), Cond.fieldLink RX1 9 "TakeoffSheet$Item" "parent" "LTakeoffSheet$Item;", Cond.methodLink RX3 163 yX3_ownSum, Cond.instanceMethod yX3_ownSum, Cond.selects RX3 yX3_ownSum yX3_ownSum, Cond.code yX3_ownSum cX3_ownSum 2 (some .long), Cond.fieldLink RX3 219 "TakeoffSheet$Item" "rate" "LTakeoffSheet$Rate;"]
def wsL_sum_r3 : List Cond := [Cond.fieldLink RX3 150 "TakeoffSheet$Item" "variation" "I", Cond.methodLink RX3 223 Lib.MathLoose.max_long.x, Cond.static Lib.MathLoose.max_long.x, Cond.initialized "java/lang/Math", Cond.code Lib.MathLoose.max_long.x Lib.MathLoose.max_long.code 4 (some .long), Cond.methodLink RX3 155 yX1_measureWithWaste, Cond.instanceMethod yX1_measureWithWaste, Cond.selects RX1 yX1_measureWithWaste yX1_measureWithWaste, Cond.code yX1_measureWithWaste cX1_measureWithWaste 1 (some .long), Cond.fieldLink RX1 23 "TakeoffSheet$Item" "measure" "I", Cond.fieldLink RX1 19 "TakeoffSheet$Item" "waste" "I", Cond.static yX3_hundredthsRoundedUp, Cond.code yX3_hundredthsRoundedUp cX3_hundredthsRoundedUp 2 (some .long), Cond.constantLong RX3 176 (100), Cond.methodLink RX3 123 yX3_priceOf, Cond.instanceMethod yX3_priceOf, Cond.selects RX3 yX3_priceOf yX3_priceOf, Cond.code yX3_priceOf cX3_priceOf 2 (some .int), Cond.fieldLink RX3 210 "TakeoffSheet$Rate" "labour" "I", Cond.fieldLink RX3 26 "TakeoffSheet" "prices" "[I", Cond.fieldLink RX3 213 "TakeoffSheet$Rate" "plant" "I", Cond.fieldLink RX3 216 "TakeoffSheet$Rate" "material" "I"]
def wsL_sum : List Cond := .codeWith yL_sum cL_sum 4 (some .int) [(0, 8, 11, 21)] :: ((wsL_sum_r1 ++ (wsL_sum_r2 ++ wsL_sum_r3)) ++ wsX30 ++ wsJx4a65c0 ++ wsX10 ++ wsX20 ++ (vx_atS RX3 71 "java/lang/IndexOutOfBoundsException" ["java/lang/RuntimeException", "java/lang/Exception"]).filter goodWord)
def wsL_dearest_r1 : List Cond := [Cond.classLink RL 21 "java/lang/IndexOutOfBoundsException", Cond.methodLink RL 70 yX3_dearest, Cond.instanceMethod yX3_dearest, Cond.selects RX3 yX3_dearest yX3_dearest, Cond.initialized RX3, Cond.code yX3_dearest cX3_dearest 8 (some .int), Cond.constantLong RX3 167 (-1), Cond.fieldLink RX3 23 "TakeoffSheet" "items" "Ljava/util/ArrayList;", Cond.classLink RX3 143 "TakeoffSheet$Item", Cond.methodLink RX3 135 yX3_itemAt, Cond.instanceMethod yX3_itemAt, Cond.selects RX3 yX3_itemAt yX3_itemAt, Cond.code yX3_itemAt cX3_itemAt 2 (some (.object "TakeoffSheet$Item")), Cond.classLink RX3 67 "java/lang/IndexOutOfBoundsException", Cond.initialized "java/lang/IndexOutOfBoundsException", Cond.methodLink RX3 98 yJx4a65c_size_8abf5, Cond.instanceMethod yJx4a65c_size_8abf5, Cond.selects RJx4a65c yJx4a65c_size_8abf5 yJx4a65c_size_8abf5, Cond.initialized RJx4a65c, Cond.code yJx4a65c_size_8abf5 cJx4a65c_size_8abf5 1 (some .int), Cond.fieldLink RJx4a65c 48 "java/util/ArrayList" "size" "I", Cond.methodLink RX3 101 yJx4a65c_get_915e3, Cond.instanceMethod yJx4a65c_get_915e3, Cond.selects RJx4a65c yJx4a65c_get_915e3 yJx4a65c_get_915e3]
def wsL_dearest_r2 : List Cond := [Cond.code yJx4a65c_get_915e3 cJx4a65c_get_915e3 2 (some (.object "java/lang/Object")), Cond.methodLink RJx4a65c 118 yJ15_checkIndex_7cf53, Cond.static yJ15_checkIndex_7cf53, Cond.initialized RJ15, Cond.code yJ15_checkIndex_7cf53 cJ15_checkIndex_7cf53 2 (some .int), Cond.methodLink RJ15 105 yJ3_checkIndex_8e157, Cond.static yJ3_checkIndex_8e157, Cond.initialized RJ3, Cond.code yJ3_checkIndex_8e157 cJ3_checkIndex_8e157 3 (some .int), Cond.methodLink RJx4a65c 123 yJx4a65c_elementData_915e3, Cond.instanceMethod yJx4a65c_elementData_915e3, Cond.selects RJx4a65c yJx4a65c_elementData_915e3 yJx4a65c_elementData_915e3, Cond.code yJx4a65c_elementData_915e3 cJx4a65c_elementData_915e3 2 (some (.object "java/lang/Object")), Cond.fieldLink RJx4a65c 9 "java/util/ArrayList" "elementData" "[Ljava/lang/Object;", Cond.methodLink RX3 169 yX1_isLeaf, Cond.instanceMethod yX1_isLeaf, Cond.selects RX1 yX1_isLeaf yX1_isLeaf, Cond.initialized RX1, Cond.code yX1_isLeaf cX1_isLeaf 1 (some .boolean), Cond.fieldLink RX1 15 "TakeoffSheet$Item" "rate" "LTakeoffSheet$Rate;", Cond.methodLink RX3 159 yX1_standsUnder, Cond.instanceMethod yX1_standsUnder, Cond.selects RX1 yX1_standsUnder yX1_standsUnder, Cond.code yX1_standsUnder cX1_standsUnder 3 (some .boolean)]
def wsL_dearest_r3 : List Cond := [Cond.fieldLink RX1 9 "TakeoffSheet$Item" "parent" "LTakeoffSheet$Item;", Cond.methodLink RX3 163 yX3_ownSum, Cond.instanceMethod yX3_ownSum, Cond.selects RX3 yX3_ownSum yX3_ownSum, Cond.code yX3_ownSum cX3_ownSum 2 (some .long), Cond.fieldLink RX3 219 "TakeoffSheet$Item" "rate" "LTakeoffSheet$Rate;", Cond.fieldLink RX3 150 "TakeoffSheet$Item" "variation" "I", Cond.methodLink RX3 223 Lib.MathLoose.max_long.x, Cond.static Lib.MathLoose.max_long.x, Cond.initialized "java/lang/Math", Cond.code Lib.MathLoose.max_long.x Lib.MathLoose.max_long.code 4 (some .long), Cond.methodLink RX3 155 yX1_measureWithWaste, Cond.instanceMethod yX1_measureWithWaste, Cond.selects RX1 yX1_measureWithWaste yX1_measureWithWaste, Cond.code yX1_measureWithWaste cX1_measureWithWaste 1 (some .long), Cond.fieldLink RX1 23 "TakeoffSheet$Item" "measure" "I", Cond.fieldLink RX1 19 "TakeoffSheet$Item" "waste" "I", Cond.static yX3_hundredthsRoundedUp, Cond.code yX3_hundredthsRoundedUp cX3_hundredthsRoundedUp 2 (some .long), Cond.constantLong RX3 176 (100), Cond.methodLink RX3 123 yX3_priceOf, Cond.instanceMethod yX3_priceOf, Cond.selects RX3 yX3_priceOf yX3_priceOf, Cond.code yX3_priceOf cX3_priceOf 2 (some .int)]
def wsL_dearest_r4 : List Cond := [Cond.fieldLink RX3 210 "TakeoffSheet$Rate" "labour" "I", Cond.fieldLink RX3 26 "TakeoffSheet" "prices" "[I", Cond.fieldLink RX3 213 "TakeoffSheet$Rate" "plant" "I", Cond.fieldLink RX3 216 "TakeoffSheet$Rate" "material" "I"]
def wsL_dearest : List Cond := .codeWith yL_dearest cL_dearest 4 (some .int) [(0, 9, 12, 21)] :: ((wsL_dearest_r1 ++ (wsL_dearest_r2 ++ (wsL_dearest_r3 ++ wsL_dearest_r4))) ++ wsX30 ++ wsJx4a65c0 ++ wsX10 ++ wsX20 ++ (vx_atS RX3 71 "java/lang/IndexOutOfBoundsException" ["java/lang/RuntimeException", "java/lang/Exception"]).filter goodWord)
def wsL_done_r1 : List Cond := [Cond.classLink RL 21 "java/lang/IndexOutOfBoundsException", Cond.classLink RL 13 "java/lang/IllegalArgumentException", Cond.classLink RL 19 "java/lang/IllegalStateException", Cond.methodLink RL 73 yX3_done, Cond.instanceMethod yX3_done, Cond.selects RX3 yX3_done yX3_done, Cond.initialized RX3, Cond.code yX3_done cX3_done 5 (some .int), Cond.fieldLink RX3 173 "TakeoffSheet$Item" "done" "I", Cond.methodLink RX3 135 yX3_itemAt, Cond.instanceMethod yX3_itemAt, Cond.selects RX3 yX3_itemAt yX3_itemAt, Cond.code yX3_itemAt cX3_itemAt 2 (some (.object "TakeoffSheet$Item")), Cond.classLink RX3 67 "java/lang/IndexOutOfBoundsException", Cond.initialized "java/lang/IndexOutOfBoundsException", Cond.fieldLink RX3 23 "TakeoffSheet" "items" "Ljava/util/ArrayList;", Cond.classLink RX3 143 "TakeoffSheet$Item", Cond.methodLink RX3 98 yJx4a65c_size_8abf5, Cond.instanceMethod yJx4a65c_size_8abf5, Cond.selects RJx4a65c yJx4a65c_size_8abf5 yJx4a65c_size_8abf5, Cond.initialized RJx4a65c, Cond.code yJx4a65c_size_8abf5 cJx4a65c_size_8abf5 1 (some .int), Cond.fieldLink RJx4a65c 48 "java/util/ArrayList" "size" "I", Cond.methodLink RX3 101 yJx4a65c_get_915e3]
def wsL_done_r2 : List Cond := [Cond.instanceMethod yJx4a65c_get_915e3, Cond.selects RJx4a65c yJx4a65c_get_915e3 yJx4a65c_get_915e3, Cond.code yJx4a65c_get_915e3 cJx4a65c_get_915e3 2 (some (.object "java/lang/Object")), Cond.methodLink RJx4a65c 118 yJ15_checkIndex_7cf53, Cond.static yJ15_checkIndex_7cf53, Cond.initialized RJ15, Cond.code yJ15_checkIndex_7cf53 cJ15_checkIndex_7cf53 2 (some .int), Cond.methodLink RJ15 105 yJ3_checkIndex_8e157, Cond.static yJ3_checkIndex_8e157, Cond.initialized RJ3, Cond.code yJ3_checkIndex_8e157 cJ3_checkIndex_8e157 3 (some .int), Cond.methodLink RJx4a65c 123 yJx4a65c_elementData_915e3, Cond.instanceMethod yJx4a65c_elementData_915e3, Cond.selects RJx4a65c yJx4a65c_elementData_915e3 yJx4a65c_elementData_915e3, Cond.code yJx4a65c_elementData_915e3 cJx4a65c_elementData_915e3 2 (some (.object "java/lang/Object")), Cond.fieldLink RJx4a65c 9 "java/util/ArrayList" "elementData" "[Ljava/lang/Object;", Cond.methodLink RX3 41 yX3_checkRange, Cond.static yX3_checkRange, Cond.code yX3_checkRange cX3_checkRange 3 none, Cond.classLink RX3 190 "java/lang/IllegalArgumentException", Cond.initialized "java/lang/IllegalArgumentException", Cond.methodLink RX3 138 yX3_checkLeaf, Cond.static yX3_checkLeaf, Cond.code yX3_checkLeaf cX3_checkLeaf 1 none]
def wsL_done_r3 : List Cond := [Cond.classLink RX3 56 "java/lang/IllegalStateException", Cond.initialized "java/lang/IllegalStateException", Cond.methodLink RX3 169 yX1_isLeaf, Cond.instanceMethod yX1_isLeaf, Cond.selects RX1 yX1_isLeaf yX1_isLeaf, Cond.initialized RX1, Cond.code yX1_isLeaf cX1_isLeaf 1 (some .boolean), Cond.fieldLink RX1 15 "TakeoffSheet$Item" "rate" "LTakeoffSheet$Rate;"]
def wsL_done : List Cond := .codeWith yL_done cL_done 5 (some .int) [(0, 10, 13, 21), (0, 10, 17, 13), (0, 10, 21, 19)] :: ((wsL_done_r1 ++ (wsL_done_r2 ++ wsL_done_r3)) ++ wsX10 ++ wsX30 ++ wsJx4a65c0 ++ (vx_atS RX3 71 "java/lang/IndexOutOfBoundsException" ["java/lang/RuntimeException", "java/lang/Exception"]).filter goodWord ++ (vx_atS RX3 194 "java/lang/IllegalArgumentException" ["java/lang/RuntimeException", "java/lang/Exception"]).filter goodWord ++ (vx_atS RX3 60 "java/lang/IllegalStateException" ["java/lang/RuntimeException", "java/lang/Exception"]).filter goodWord)
def wsL_retention : List Cond := .codeWith yL_retention cL_retention 4 (some .int) [(0, 9, 12, 13)] :: ([.classLink RL 13 "java/lang/IllegalArgumentException", .methodLink RL 76 yX3_retention, .instanceMethod yX3_retention, .selects RX3 yX3_retention yX3_retention, .initialized RX3, .code yX3_retention cX3_retention 3 (some .int), .fieldLink RX3 34 "TakeoffSheet" "retention" "I", .methodLink RX3 41 yX3_checkRange, .static yX3_checkRange, .code yX3_checkRange cX3_checkRange 3 none, .classLink RX3 190 "java/lang/IllegalArgumentException", .initialized "java/lang/IllegalArgumentException"] ++ wsX30 ++ (vx_atS RX3 194 "java/lang/IllegalArgumentException" ["java/lang/RuntimeException", "java/lang/Exception"]).filter goodWord)
def wsL_claim_r1 : List Cond := [Cond.classLink RL 19 "java/lang/IllegalStateException", Cond.methodLink RL 79 yX3_claim, Cond.instanceMethod yX3_claim, Cond.selects RX3 yX3_claim yX3_claim, Cond.initialized RX3, Cond.code yX3_claim cX3_claim 3 (some .long), Cond.classLink RX3 56 "java/lang/IllegalStateException", Cond.initialized "java/lang/IllegalStateException", Cond.fieldLink RX3 37 "TakeoffSheet" "claimed" "J", Cond.methodLink RX3 185 yX3_due, Cond.instanceMethod yX3_due, Cond.selects RX3 yX3_due yX3_due, Cond.code yX3_due cX3_due 3 (some .long), Cond.fieldLink RX3 34 "TakeoffSheet" "retention" "I", Cond.methodLink RX3 178 yX3_worth, Cond.instanceMethod yX3_worth, Cond.selects RX3 yX3_worth yX3_worth, Cond.code yX3_worth cX3_worth 5 (some .long), Cond.fieldLink RX3 23 "TakeoffSheet" "items" "Ljava/util/ArrayList;", Cond.classLink RX3 143 "TakeoffSheet$Item", Cond.fieldLink RX3 173 "TakeoffSheet$Item" "done" "I", Cond.constantLong RX3 176 (100), Cond.methodLink RX3 98 yJx4a65c_size_8abf5, Cond.instanceMethod yJx4a65c_size_8abf5]
def wsL_claim_r2 : List Cond := [Cond.selects RJx4a65c yJx4a65c_size_8abf5 yJx4a65c_size_8abf5, Cond.initialized RJx4a65c, Cond.code yJx4a65c_size_8abf5 cJx4a65c_size_8abf5 1 (some .int), Cond.fieldLink RJx4a65c 48 "java/util/ArrayList" "size" "I", Cond.methodLink RX3 101 yJx4a65c_get_915e3, Cond.instanceMethod yJx4a65c_get_915e3, Cond.selects RJx4a65c yJx4a65c_get_915e3 yJx4a65c_get_915e3, Cond.code yJx4a65c_get_915e3 cJx4a65c_get_915e3 2 (some (.object "java/lang/Object")), Cond.methodLink RJx4a65c 118 yJ15_checkIndex_7cf53, Cond.static yJ15_checkIndex_7cf53, Cond.initialized RJ15, Cond.code yJ15_checkIndex_7cf53 cJ15_checkIndex_7cf53 2 (some .int), Cond.methodLink RJ15 105 yJ3_checkIndex_8e157, Cond.static yJ3_checkIndex_8e157, Cond.initialized RJ3, Cond.code yJ3_checkIndex_8e157 cJ3_checkIndex_8e157 3 (some .int), Cond.methodLink RJx4a65c 123 yJx4a65c_elementData_915e3, Cond.instanceMethod yJx4a65c_elementData_915e3, Cond.selects RJx4a65c yJx4a65c_elementData_915e3 yJx4a65c_elementData_915e3, Cond.code yJx4a65c_elementData_915e3 cJx4a65c_elementData_915e3 2 (some (.object "java/lang/Object")), Cond.fieldLink RJx4a65c 9 "java/util/ArrayList" "elementData" "[Ljava/lang/Object;", Cond.methodLink RX3 163 yX3_ownSum, Cond.instanceMethod yX3_ownSum, Cond.selects RX3 yX3_ownSum yX3_ownSum]
def wsL_claim_r3 : List Cond := [Cond.code yX3_ownSum cX3_ownSum 2 (some .long), Cond.fieldLink RX3 219 "TakeoffSheet$Item" "rate" "LTakeoffSheet$Rate;", Cond.fieldLink RX3 150 "TakeoffSheet$Item" "variation" "I", Cond.methodLink RX3 223 Lib.MathLoose.max_long.x, Cond.static Lib.MathLoose.max_long.x, Cond.initialized "java/lang/Math", Cond.code Lib.MathLoose.max_long.x Lib.MathLoose.max_long.code 4 (some .long), Cond.methodLink RX3 155 yX1_measureWithWaste, Cond.instanceMethod yX1_measureWithWaste, Cond.selects RX1 yX1_measureWithWaste yX1_measureWithWaste, Cond.initialized RX1, Cond.code yX1_measureWithWaste cX1_measureWithWaste 1 (some .long), Cond.fieldLink RX1 23 "TakeoffSheet$Item" "measure" "I", Cond.fieldLink RX1 19 "TakeoffSheet$Item" "waste" "I", Cond.static yX3_hundredthsRoundedUp, Cond.code yX3_hundredthsRoundedUp cX3_hundredthsRoundedUp 2 (some .long), Cond.methodLink RX3 123 yX3_priceOf, Cond.instanceMethod yX3_priceOf, Cond.selects RX3 yX3_priceOf yX3_priceOf, Cond.code yX3_priceOf cX3_priceOf 2 (some .int), Cond.fieldLink RX3 210 "TakeoffSheet$Rate" "labour" "I", Cond.fieldLink RX3 26 "TakeoffSheet" "prices" "[I", Cond.fieldLink RX3 213 "TakeoffSheet$Rate" "plant" "I", Cond.fieldLink RX3 216 "TakeoffSheet$Rate" "material" "I"]
def wsL_claim_r4 : List Cond := [Cond.methodLink RX3 181 yX3_hundredthsRoundedUp]
def wsL_claim : List Cond := .codeWith yL_claim cL_claim 3 (some .int) [(0, 7, 10, 19)] :: ((wsL_claim_r1 ++ (wsL_claim_r2 ++ (wsL_claim_r3 ++ wsL_claim_r4))) ++ wsX30 ++ wsX10 ++ wsJx4a65c0 ++ wsX20 ++ (vx_atS RX3 60 "java/lang/IllegalStateException" ["java/lang/RuntimeException", "java/lang/Exception"]).filter goodWord)
def wsL_law0_r1 : List Cond := [Cond.classLink RL 8 RX3, Cond.instantiable RX3 7, Cond.initialized RX3, Cond.classLink RL 84 RX4, Cond.instantiable RX4 26, Cond.initialized RX4, Cond.arrayClass .long, Cond.methodLink RL 83 yX3_init, Cond.instanceMethod yX3_init, Cond.code yX3_init cX3_init 1 none, Cond.methodLink RX3 1 objectInit, Cond.instanceMethod objectInit, Cond.code objectInit ⟨#[0xb1]⟩ 1 none, Cond.classLink RX3 7 RX0, Cond.instantiable RX0 12, Cond.initialized RX0, Cond.fieldLink RX3 10 "TakeoffSheet" "drawing" "LTakeoffSheet$Drawing;", Cond.classLink RX3 16 RJx4a65c, Cond.instantiable RJx4a65c 3, Cond.initialized RJx4a65c, Cond.fieldLink RX3 19 "TakeoffSheet" "rates" "Ljava/util/ArrayList;", Cond.fieldLink RX3 23 "TakeoffSheet" "items" "Ljava/util/ArrayList;", Cond.arrayClass .int, Cond.fieldLink RX3 26 "TakeoffSheet" "prices" "[I"]
def wsL_law0_r2 : List Cond := [Cond.fieldLink RX3 30 "TakeoffSheet" "limit" "I", Cond.fieldLink RX3 34 "TakeoffSheet" "retention" "I", Cond.fieldLink RX3 37 "TakeoffSheet" "claimed" "J", Cond.instanceMethod yX0_init, Cond.code yX0_init cX0_init 1 none, Cond.methodLink RX0 3 objectInit, Cond.fieldLink RX0 9 "TakeoffSheet$Drawing" "over" "[J", Cond.fieldLink RX0 15 "TakeoffSheet$Drawing" "wallsNorth" "[J", Cond.fieldLink RX0 18 "TakeoffSheet$Drawing" "openings" "[I", Cond.methodLink RX3 18 yJx4a65c_init_da8c8, Cond.instanceMethod yJx4a65c_init_da8c8, Cond.code yJx4a65c_init_da8c8 cJx4a65c_init_da8c8 1 none, Cond.fieldLink RJx4a65c 39 "java/util/ArrayList" "DEFAULTCAPACITY_EMPTY_ELEMENTDATA" "[Ljava/lang/Object;", Cond.fieldLink RJx4a65c 9 "java/util/ArrayList" "elementData" "[Ljava/lang/Object;", Cond.methodLink RJx4a65c 1 yJxc12de_init_da8c8, Cond.instanceMethod yJxc12de_init_da8c8, Cond.initialized RJxc12de, Cond.code yJxc12de_init_da8c8 cJxc12de_init_da8c8 1 none, Cond.fieldLink RJxc12de 7 "java/util/AbstractList" "modCount" "I", Cond.methodLink RJxc12de 1 yJxa1e45_init_da8c8, Cond.instanceMethod yJxa1e45_init_da8c8, Cond.initialized RJxa1e45, Cond.code yJxa1e45_init_da8c8 cJxa1e45_init_da8c8 1 none, Cond.methodLink RJxa1e45 1 objectInit]
def wsL_law0_r3 : List Cond := [Cond.methodLink RL 86 yX4_init, Cond.instanceMethod yX4_init, Cond.code yX4_init cX4_init 1 none, Cond.methodLink RX4 1 objectInit, Cond.arrayClass .boolean, Cond.fieldLink RX4 7 "TakeoffSheetModel" "marks" "[Z", Cond.fieldLink RX4 13 "TakeoffSheetModel" "holes" "[I", Cond.fieldLink RX4 17 "TakeoffSheetModel" "limit" "I", Cond.fieldLink RX4 21 "TakeoffSheetModel" "amounts" "[I", Cond.fieldLink RX4 24 "TakeoffSheetModel" "prices" "[I", Cond.fieldLink RX4 27 "TakeoffSheetModel" "parents" "[I", Cond.fieldLink RX4 30 "TakeoffSheetModel" "rateOf" "[I", Cond.fieldLink RX4 33 "TakeoffSheetModel" "wastes" "[I", Cond.fieldLink RX4 36 "TakeoffSheetModel" "measures" "[I", Cond.fieldLink RX4 39 "TakeoffSheetModel" "variations" "[I", Cond.fieldLink RX4 42 "TakeoffSheetModel" "dones" "[I", Cond.fieldLink RX4 45 "TakeoffSheetModel" "sums" "[J", Cond.fieldLink RX4 49 "TakeoffSheetModel" "retention" "I", Cond.methodLink RL 87 yL_begin, Cond.static yL_begin, Cond.initialized RL, Cond.codeWith yL_begin cL_begin 4 (some .int) [(0, 6, 9, 13)], Cond.classLink RL 13 "java/lang/IllegalArgumentException", Cond.methodLink RL 7 yX3_begin]
def wsL_law0_r4 : List Cond := [Cond.instanceMethod yX3_begin, Cond.selects RX3 yX3_begin yX3_begin, Cond.code yX3_begin cX3_begin 3 none, Cond.methodLink RX3 41 yX3_checkRange, Cond.static yX3_checkRange, Cond.code yX3_checkRange cX3_checkRange 3 none, Cond.classLink RX3 190 "java/lang/IllegalArgumentException", Cond.initialized "java/lang/IllegalArgumentException", Cond.methodLink RX3 45 yX0_startAt, Cond.instanceMethod yX0_startAt, Cond.selects RX0 yX0_startAt yX0_startAt, Cond.code yX0_startAt cX0_startAt 3 none, Cond.fieldLink RX0 31 "TakeoffSheet$Drawing" "openingCount" "I", Cond.fieldLink RX0 35 "TakeoffSheet$Drawing" "otherPlaces" "I", Cond.fieldLink RX0 38 "TakeoffSheet$Drawing" "twiceArea" "I", Cond.fieldLink RX0 41 "TakeoffSheet$Drawing" "beginX" "I", Cond.fieldLink RX0 44 "TakeoffSheet$Drawing" "beginY" "I", Cond.fieldLink RX0 47 "TakeoffSheet$Drawing" "x" "I", Cond.fieldLink RX0 50 "TakeoffSheet$Drawing" "y" "I", Cond.fieldLink RX0 57 "TakeoffSheet$Drawing" "begun" "Z", Cond.fieldLink RX0 61 "TakeoffSheet$Drawing" "closed" "Z", Cond.methodLink RX0 22 yJ7_fill_d0a16, Cond.static yJ7_fill_d0a16, Cond.initialized RJ7]
def wsL_law0_r5 : List Cond := [Cond.code yJ7_fill_d0a16 cJ7_fill_d0a16 5 none, Cond.methodLink RX0 28 yJ7_fill_53178, Cond.static yJ7_fill_53178, Cond.code yJ7_fill_53178 cJ7_fill_53178 4 none, Cond.methodLink RX0 53 yX0_mark, Cond.static yX0_mark, Cond.code yX0_mark cX0_mark 3 none, Cond.methodLink RX0 101 yX0_isPlace, Cond.static yX0_isPlace, Cond.code yX0_isPlace cX0_isPlace 2 (some .boolean), Cond.methodLink RL 92 yX4_begin, Cond.instanceMethod yX4_begin, Cond.selects RX4 yX4_begin yX4_begin, Cond.code yX4_begin cX4_begin 4 none, Cond.fieldLink RX4 69 "TakeoffSheetModel" "drawn" "Z", Cond.fieldLink RX4 73 "TakeoffSheetModel" "closed" "Z", Cond.fieldLink RX4 76 "TakeoffSheetModel" "beginX" "I", Cond.fieldLink RX4 79 "TakeoffSheetModel" "beginY" "I", Cond.fieldLink RX4 82 "TakeoffSheetModel" "x" "I", Cond.fieldLink RX4 85 "TakeoffSheetModel" "y" "I", Cond.fieldLink RX4 88 "TakeoffSheetModel" "others" "I", Cond.fieldLink RX4 91 "TakeoffSheetModel" "twice" "I", Cond.fieldLink RX4 94 "TakeoffSheetModel" "openings" "I", Cond.methodLink RX4 58 yX4_in]
def wsL_law0_r6 : List Cond := [Cond.static yX4_in, Cond.code yX4_in cX4_in 3 (some .boolean), Cond.methodLink RX4 65 yX4_goes, Cond.instanceMethod yX4_goes, Cond.selects RX4 yX4_goes yX4_goes, Cond.code yX4_goes cX4_goes 4 (some .boolean), Cond.fieldLink RX4 52 "TakeoffSheetModel" "last" "I", Cond.methodLink RL 93 yX4_thrown, Cond.instanceMethod yX4_thrown, Cond.selects RX4 yX4_thrown yX4_thrown, Cond.code yX4_thrown cX4_thrown 1 (some .int), Cond.methodLink RL 96 yL_wall, Cond.static yL_wall, Cond.codeWith yL_wall cL_wall 5 (some .int) [(0, 17, 20, 13), (0, 17, 24, 19), (0, 17, 28, 21)], Cond.classLink RL 19 "java/lang/IllegalStateException", Cond.classLink RL 21 "java/lang/IndexOutOfBoundsException", Cond.methodLink RL 15 yX3_wall, Cond.instanceMethod yX3_wall, Cond.selects RX3 yX3_wall yX3_wall, Cond.code yX3_wall cX3_wall 3 (some .boolean), Cond.classLink RX3 56 "java/lang/IllegalStateException", Cond.initialized "java/lang/IllegalStateException", Cond.classLink RX3 67 "java/lang/IndexOutOfBoundsException", Cond.initialized "java/lang/IndexOutOfBoundsException"]
def wsL_law0_r7 : List Cond := [Cond.fieldLink RX3 49 "TakeoffSheet$Drawing" "begun" "Z", Cond.fieldLink RX3 53 "TakeoffSheet$Drawing" "closed" "Z", Cond.methodLink RX3 63 yX0_admits, Cond.instanceMethod yX0_admits, Cond.selects RX0 yX0_admits yX0_admits, Cond.code yX0_admits cX0_admits 7 (some .boolean), Cond.methodLink RX0 64 yX0_eastward, Cond.static yX0_eastward, Cond.code yX0_eastward cX0_eastward 1 (some .int), Cond.methodLink RX0 68 yX0_northward, Cond.static yX0_northward, Cond.code yX0_northward cX0_northward 1 (some .int), Cond.methodLink RX0 71 yX0_isFree, Cond.instanceMethod yX0_isFree, Cond.selects RX0 yX0_isFree yX0_isFree, Cond.code yX0_isFree cX0_isFree 3 (some .boolean), Cond.methodLink RX0 97 yX0_isMarked, Cond.static yX0_isMarked, Cond.code yX0_isMarked cX0_isMarked 3 (some .boolean), Cond.methodLink RX0 75 yX0_closesAt, Cond.instanceMethod yX0_closesAt, Cond.selects RX0 yX0_closesAt yX0_closesAt, Cond.code yX0_closesAt cX0_closesAt 3 (some .boolean), Cond.methodLink RX3 72 yX0_goOn]
def wsL_law0_r8 : List Cond := [Cond.instanceMethod yX0_goOn, Cond.selects RX0 yX0_goOn yX0_goOn, Cond.code yX0_goOn cX0_goOn 8 none, Cond.methodLink RX0 78 Lib.Math.min.name, Cond.static Lib.Math.min.name, Cond.initialized "java/lang/Math", Cond.code Lib.Math.min.name Lib.Math.min.code 2 (some .int), Cond.methodLink RX0 84 Lib.Math.max.name, Cond.static Lib.Math.max.name, Cond.code Lib.Math.max.name Lib.Math.max.code 2 (some .int), Cond.methodLink RL 99 yX4_wall, Cond.instanceMethod yX4_wall, Cond.selects RX4 yX4_wall yX4_wall, Cond.code yX4_wall cX4_wall 9 (some .boolean), Cond.methodLink RX4 97 yX4_canGo, Cond.instanceMethod yX4_canGo, Cond.selects RX4 yX4_canGo yX4_canGo, Cond.code yX4_canGo cX4_canGo 9 (some .boolean), Cond.methodLink RL 100 yL_opening, Cond.static yL_opening, Cond.codeWith yL_opening cL_opening 5 (some .int) [(0, 10, 13, 13), (0, 10, 17, 19)], Cond.methodLink RL 23 yX3_opening, Cond.instanceMethod yX3_opening, Cond.selects RX3 yX3_opening yX3_opening]
def wsL_law0_r9 : List Cond := [Cond.code yX3_opening cX3_opening 3 (some .int), Cond.fieldLink RX3 84 "TakeoffSheet$Drawing" "openingCount" "I", Cond.methodLink RX3 75 yX3_checkClosed, Cond.instanceMethod yX3_checkClosed, Cond.selects RX3 yX3_checkClosed yX3_checkClosed, Cond.code yX3_checkClosed cX3_checkClosed 1 none, Cond.methodLink RX3 78 yX0_addOpening, Cond.instanceMethod yX0_addOpening, Cond.selects RX0 yX0_addOpening yX0_addOpening, Cond.code yX0_addOpening cX0_addOpening 2 (some .boolean), Cond.methodLink RL 102 yX4_opening, Cond.instanceMethod yX4_opening, Cond.selects RX4 yX4_opening yX4_opening, Cond.code yX4_opening cX4_opening 4 (some .int), Cond.methodLink RL 103 yL_limit, Cond.static yL_limit, Cond.codeWith yL_limit cL_limit 4 (some .int) [(0, 9, 12, 13)], Cond.methodLink RL 27 yX3_limit, Cond.instanceMethod yX3_limit, Cond.selects RX3 yX3_limit yX3_limit, Cond.code yX3_limit cX3_limit 3 (some .int), Cond.methodLink RL 106 yX4_limit, Cond.instanceMethod yX4_limit, Cond.selects RX4 yX4_limit yX4_limit]
def wsL_law0_r10 : List Cond := [Cond.code yX4_limit cX4_limit 3 (some .int), Cond.methodLink RL 107 yL_area, Cond.static yL_area, Cond.codeWith yL_area cL_area 3 (some .int) [(0, 8, 11, 19)], Cond.methodLink RL 31 yX3_area, Cond.instanceMethod yX3_area, Cond.selects RX3 yX3_area yX3_area, Cond.code yX3_area cX3_area 1 (some .int), Cond.methodLink RX3 87 yX0_areaByCorners, Cond.instanceMethod yX0_areaByCorners, Cond.selects RX0 yX0_areaByCorners yX0_areaByCorners, Cond.code yX0_areaByCorners cX0_areaByCorners 1 (some .int), Cond.methodLink RX0 87 Lib.Math.abs.name, Cond.static Lib.Math.abs.name, Cond.code Lib.Math.abs.name Lib.Math.abs.code 1 (some .int), Cond.methodLink RL 110 yX4_area, Cond.instanceMethod yX4_area, Cond.selects RX4 yX4_area yX4_area, Cond.code yX4_area cX4_area 1 (some .int), Cond.methodLink RX4 100 yX4_whole, Cond.instanceMethod yX4_whole, Cond.selects RX4 yX4_whole yX4_whole, Cond.code yX4_whole cX4_whole 1 (some .int), Cond.methodLink RL 111 yL_areaByStrips]
def wsL_law0_r11 : List Cond := [Cond.static yL_areaByStrips, Cond.codeWith yL_areaByStrips cL_areaByStrips 3 (some .int) [(0, 8, 11, 19)], Cond.methodLink RL 35 yX3_areaByStrips, Cond.instanceMethod yX3_areaByStrips, Cond.selects RX3 yX3_areaByStrips yX3_areaByStrips, Cond.code yX3_areaByStrips cX3_areaByStrips 1 (some .int), Cond.methodLink RX3 91 yX0_squaresInside, Cond.instanceMethod yX0_squaresInside, Cond.selects RX0 yX0_squaresInside yX0_squaresInside, Cond.code yX0_squaresInside cX0_squaresInside 3 (some .int), Cond.methodLink RX0 90 yX0_squaresInStrip, Cond.instanceMethod yX0_squaresInStrip, Cond.selects RX0 yX0_squaresInStrip yX0_squaresInStrip, Cond.code yX0_squaresInStrip cX0_squaresInStrip 5 (some .int), Cond.methodLink RL 113 yX4_areaByStrips, Cond.instanceMethod yX4_areaByStrips, Cond.selects RX4 yX4_areaByStrips yX4_areaByStrips, Cond.code yX4_areaByStrips cX4_areaByStrips 1 (some .int), Cond.methodLink RX4 104 yX4_area, Cond.methodLink RL 114 yL_netArea, Cond.static yL_netArea, Cond.codeWith yL_netArea cL_netArea 3 (some .int) [(0, 8, 11, 19)], Cond.methodLink RL 38 yX3_netArea, Cond.instanceMethod yX3_netArea]
def wsL_law0_r12 : List Cond := [Cond.selects RX3 yX3_netArea yX3_netArea, Cond.code yX3_netArea cX3_netArea 1 (some .int), Cond.methodLink RX3 94 yX0_areaLeft, Cond.instanceMethod yX0_areaLeft, Cond.selects RX0 yX0_areaLeft yX0_areaLeft, Cond.code yX0_areaLeft cX0_areaLeft 4 (some .int), Cond.methodLink RX0 93 yX0_areaByCorners, Cond.methodLink RL 116 yX4_netArea, Cond.instanceMethod yX4_netArea, Cond.selects RX4 yX4_netArea yX4_netArea, Cond.code yX4_netArea cX4_netArea 1 (some .int), Cond.methodLink RX4 107 yX4_net, Cond.instanceMethod yX4_net, Cond.selects RX4 yX4_net yX4_net, Cond.code yX4_net cX4_net 3 (some .int), Cond.methodLink RL 117 yL_rate, Cond.static yL_rate, Cond.codeWith yL_rate cL_rate 6 (some .int) [(0, 12, 15, 13), (0, 12, 19, 19)], Cond.methodLink RL 41 yX3_rate, Cond.instanceMethod yX3_rate, Cond.selects RX3 yX3_rate yX3_rate, Cond.code yX3_rate cX3_rate 5 (some .int), Cond.classLink RX3 105 "TakeoffSheet$Rate", Cond.classLink RX3 105 RX2]
def wsL_law0_r13 : List Cond := [Cond.instantiable RX2 3, Cond.initialized RX2, Cond.methodLink RX3 98 yJx4a65c_size_8abf5, Cond.instanceMethod yJx4a65c_size_8abf5, Cond.selects RJx4a65c yJx4a65c_size_8abf5 yJx4a65c_size_8abf5, Cond.code yJx4a65c_size_8abf5 cJx4a65c_size_8abf5 1 (some .int), Cond.fieldLink RJx4a65c 48 "java/util/ArrayList" "size" "I", Cond.methodLink RX3 101 yJx4a65c_get_915e3, Cond.instanceMethod yJx4a65c_get_915e3, Cond.selects RJx4a65c yJx4a65c_get_915e3 yJx4a65c_get_915e3, Cond.code yJx4a65c_get_915e3 cJx4a65c_get_915e3 2 (some (.object "java/lang/Object")), Cond.methodLink RJx4a65c 118 yJ15_checkIndex_7cf53, Cond.static yJ15_checkIndex_7cf53, Cond.initialized RJ15, Cond.code yJ15_checkIndex_7cf53 cJ15_checkIndex_7cf53 2 (some .int), Cond.methodLink RJ15 105 yJ3_checkIndex_8e157, Cond.static yJ3_checkIndex_8e157, Cond.initialized RJ3, Cond.code yJ3_checkIndex_8e157 cJ3_checkIndex_8e157 3 (some .int), Cond.methodLink RJx4a65c 123 yJx4a65c_elementData_915e3, Cond.instanceMethod yJx4a65c_elementData_915e3, Cond.selects RJx4a65c yJx4a65c_elementData_915e3 yJx4a65c_elementData_915e3, Cond.code yJx4a65c_elementData_915e3 cJx4a65c_elementData_915e3 2 (some (.object "java/lang/Object")), Cond.methodLink RX3 107 yX2_isOf]
def wsL_law0_r14 : List Cond := [Cond.instanceMethod yX2_isOf, Cond.selects RX2 yX2_isOf yX2_isOf, Cond.code yX2_isOf cX2_isOf 4 (some .boolean), Cond.fieldLink RX2 7 "TakeoffSheet$Rate" "labour" "I", Cond.fieldLink RX2 13 "TakeoffSheet$Rate" "plant" "I", Cond.fieldLink RX2 16 "TakeoffSheet$Rate" "material" "I", Cond.methodLink RX3 113 yX2_init, Cond.instanceMethod yX2_init, Cond.code yX2_init cX2_init 4 none, Cond.methodLink RX2 1 objectInit, Cond.methodLink RX3 115 yJx4a65c_add_9ea2d, Cond.instanceMethod yJx4a65c_add_9ea2d, Cond.selects RJx4a65c yJx4a65c_add_9ea2d yJx4a65c_add_9ea2d, Cond.code yJx4a65c_add_9ea2d cJx4a65c_add_9ea2d 2 (some .boolean), Cond.fieldLink RJx4a65c 63 "java/util/ArrayList" "modCount" "I", Cond.sameField "java/util/ArrayList" "java/util/AbstractList" "modCount" "I", Cond.methodLink RJx4a65c 131 yJx4a65c_add_72be8, Cond.instanceMethod yJx4a65c_add_72be8, Cond.selects RJx4a65c yJx4a65c_add_72be8 yJx4a65c_add_72be8, Cond.code yJx4a65c_add_72be8 cJx4a65c_add_72be8 4 none, Cond.methodLink RJx4a65c 129 yJx4a65c_grow_d5877, Cond.instanceMethod yJx4a65c_grow_d5877, Cond.selects RJx4a65c yJx4a65c_grow_d5877 yJx4a65c_grow_d5877, Cond.code yJx4a65c_grow_d5877 cJx4a65c_grow_d5877 1 (some (.array (.object "java/lang/Object")))]
def wsL_law0_r15 : List Cond := [Cond.methodLink RJx4a65c 69 yJx4a65c_grow_92f84, Cond.instanceMethod yJx4a65c_grow_92f84, Cond.selects RJx4a65c yJx4a65c_grow_92f84 yJx4a65c_grow_92f84, Cond.code yJx4a65c_grow_92f84 cJx4a65c_grow_92f84 4 (some (.array (.object "java/lang/Object"))), Cond.methodLink RJx4a65c 79 Lib.Math.max.name, Cond.classLink RJx4a65c 7 "java/lang/Object", Cond.methodLink RJx4a65c 73 yJ8_newLength_cabcc, Cond.static yJ8_newLength_cabcc, Cond.initialized RJ8, Cond.code yJ8_newLength_cabcc cJ8_newLength_cabcc 4 (some .int), Cond.methodLink RJ8 194 Lib.Math.max.name, Cond.constant RJ8 200 (2147483639), Cond.methodLink RJ8 201 yJ8_hugeLength_7cf53, Cond.static yJ8_hugeLength_7cf53, Cond.code yJ8_hugeLength_7cf53 cJ8_hugeLength_7cf53 3 (some .int), Cond.methodLink RJx4a65c 66 yJ7_copyOf_1904c, Cond.static yJ7_copyOf_1904c, Cond.code yJ7_copyOf_1904c cJ7_copyOf_1904c 2 (some (.array (.object "java/lang/Object"))), Cond.methodLink RJ7 86 ⟨"java/lang/Object", "getClass", "()Ljava/lang/Class;"⟩, Cond.selects "[Ljava/lang/Object;" ⟨"java/lang/Object", "getClass", "()Ljava/lang/Class;"⟩ ⟨"java/lang/Object", "getClass", "()Ljava/lang/Class;"⟩, Cond.instanceMethod ⟨"java/lang/Object", "getClass", "()Ljava/lang/Class;"⟩, Cond.native ⟨"java/lang/Object", "getClass", "()Ljava/lang/Class;"⟩, Cond.methodLink RJ7 300 yJ7_copyOf_6403c, Cond.static yJ7_copyOf_6403c]
def wsL_law0_r16 : List Cond := [Cond.code yJ7_copyOf_6403c cJ7_copyOf_6403c 4 (some (.array (.object "java/lang/Object"))), Cond.classLink RJ7 110 "[Ljava/lang/Object;", Cond.classLink RJ7 2 "java/lang/Object", Cond.methodLink RJ7 304 Lib.Math.min.name, Cond.methodLink RJ7 150 arraycopyName, Cond.native arraycopyName, Cond.static arraycopyName, Cond.initialized "java/lang/System", Cond.methodLink RL 120 yX4_rate, Cond.instanceMethod yX4_rate, Cond.selects RX4 yX4_rate yX4_rate, Cond.code yX4_rate cX4_rate 7 (some .int), Cond.fieldLink RX4 62 "TakeoffSheetModel" "rates" "I", Cond.methodLink RL 121 yL_price, Cond.static yL_price, Cond.codeWith yL_price cL_price 5 (some .int) [(0, 10, 13, 13)], Cond.methodLink RL 45 yX3_price, Cond.instanceMethod yX3_price, Cond.selects RX3 yX3_price yX3_price, Cond.code yX3_price cX3_price 4 (some .int), Cond.methodLink RL 123 yX4_price, Cond.instanceMethod yX4_price, Cond.selects RX4 yX4_price yX4_price, Cond.code yX4_price cX4_price 4 (some .int)]
def wsL_law0_r17 : List Cond := [Cond.methodLink RL 124 yL_rateOf, Cond.static yL_rateOf, Cond.codeWith yL_rateOf cL_rateOf 4 (some .int) [(0, 9, 12, 21)], Cond.methodLink RL 48 yX3_rateOf, Cond.instanceMethod yX3_rateOf, Cond.selects RX3 yX3_rateOf yX3_rateOf, Cond.code yX3_rateOf cX3_rateOf 2 (some .int), Cond.methodLink RX3 119 yX3_rateAt, Cond.instanceMethod yX3_rateAt, Cond.selects RX3 yX3_rateAt yX3_rateAt, Cond.code yX3_rateAt cX3_rateAt 2 (some (.object "TakeoffSheet$Rate")), Cond.methodLink RX3 123 yX3_priceOf, Cond.instanceMethod yX3_priceOf, Cond.selects RX3 yX3_priceOf yX3_priceOf, Cond.code yX3_priceOf cX3_priceOf 2 (some .int), Cond.fieldLink RX3 210 "TakeoffSheet$Rate" "labour" "I", Cond.fieldLink RX3 213 "TakeoffSheet$Rate" "plant" "I", Cond.fieldLink RX3 216 "TakeoffSheet$Rate" "material" "I", Cond.methodLink RL 126 yX4_rateOf, Cond.instanceMethod yX4_rateOf, Cond.selects RX4 yX4_rateOf yX4_rateOf, Cond.code yX4_rateOf cX4_rateOf 2 (some .int), Cond.methodLink RX4 110 yX4_isRate, Cond.instanceMethod yX4_isRate]
def wsL_law0_r18 : List Cond := [Cond.selects RX4 yX4_isRate yX4_isRate, Cond.code yX4_isRate cX4_isRate 2 (some .boolean), Cond.methodLink RX4 114 yX4_cents, Cond.instanceMethod yX4_cents, Cond.selects RX4 yX4_cents yX4_cents, Cond.code yX4_cents cX4_cents 2 (some .int), Cond.methodLink RL 127 yL_heading, Cond.static yL_heading, Cond.codeWith yL_heading cL_heading 4 (some .int) [(0, 9, 12, 21), (0, 9, 15, 19)], Cond.methodLink RL 51 yX3_heading, Cond.instanceMethod yX3_heading, Cond.selects RX3 yX3_heading yX3_heading, Cond.code yX3_heading cX3_heading 2 (some .int), Cond.methodLink RX3 127 yX3_parentAt, Cond.instanceMethod yX3_parentAt, Cond.selects RX3 yX3_parentAt yX3_parentAt, Cond.code yX3_parentAt cX3_parentAt 2 (some (.object "TakeoffSheet$Item")), Cond.methodLink RX3 135 yX3_itemAt, Cond.instanceMethod yX3_itemAt, Cond.selects RX3 yX3_itemAt yX3_itemAt, Cond.code yX3_itemAt cX3_itemAt 2 (some (.object "TakeoffSheet$Item")), Cond.classLink RX3 143 "TakeoffSheet$Item", Cond.methodLink RX3 131 yX3_addItem, Cond.instanceMethod yX3_addItem]
def wsL_law0_r19 : List Cond := [Cond.selects RX3 yX3_addItem yX3_addItem, Cond.code yX3_addItem cX3_addItem 4 (some .int), Cond.classLink RX3 143 RX1, Cond.instantiable RX1 6, Cond.initialized RX1, Cond.methodLink RX3 169 yX1_isLeaf, Cond.instanceMethod yX1_isLeaf, Cond.selects RX1 yX1_isLeaf yX1_isLeaf, Cond.code yX1_isLeaf cX1_isLeaf 1 (some .boolean), Cond.fieldLink RX1 15 "TakeoffSheet$Item" "rate" "LTakeoffSheet$Rate;", Cond.methodLink RX3 207 yX1_init, Cond.instanceMethod yX1_init, Cond.code yX1_init cX1_init 4 none, Cond.methodLink RX1 3 objectInit, Cond.fieldLink RX1 9 "TakeoffSheet$Item" "parent" "LTakeoffSheet$Item;", Cond.fieldLink RX1 19 "TakeoffSheet$Item" "waste" "I", Cond.methodLink RL 129 yX4_heading, Cond.instanceMethod yX4_heading, Cond.selects RX4 yX4_heading yX4_heading, Cond.code yX4_heading cX4_heading 3 (some .int), Cond.fieldLink RX4 55 "TakeoffSheetModel" "items" "I", Cond.methodLink RX4 121 yX4_isItem, Cond.instanceMethod yX4_isItem, Cond.selects RX4 yX4_isItem yX4_isItem]
def wsL_law0_r20 : List Cond := [Cond.code yX4_isItem cX4_isItem 2 (some .boolean), Cond.methodLink RX4 124 yX4_isLeaf, Cond.instanceMethod yX4_isLeaf, Cond.selects RX4 yX4_isLeaf yX4_isLeaf, Cond.code yX4_isLeaf cX4_isLeaf 2 (some .boolean), Cond.methodLink RX4 118 yX4_isHeading, Cond.instanceMethod yX4_isHeading, Cond.selects RX4 yX4_isHeading yX4_isHeading, Cond.code yX4_isHeading cX4_isHeading 2 (some .boolean), Cond.methodLink RX4 127 yX4_adds, Cond.instanceMethod yX4_adds, Cond.selects RX4 yX4_adds yX4_adds, Cond.code yX4_adds cX4_adds 4 (some .int), Cond.methodLink RL 130 yL_leaf, Cond.static yL_leaf, Cond.codeWith yL_leaf cL_leaf 6 (some .int) [(0, 12, 15, 21), (0, 12, 19, 13), (0, 12, 23, 19)], Cond.methodLink RL 54 yX3_leaf, Cond.instanceMethod yX3_leaf, Cond.selects RX3 yX3_leaf yX3_leaf, Cond.code yX3_leaf cX3_leaf 6 (some .int), Cond.methodLink RL 132 yX4_leaf, Cond.instanceMethod yX4_leaf, Cond.selects RX4 yX4_leaf yX4_leaf, Cond.code yX4_leaf cX4_leaf 6 (some .int)]
def wsL_law0_r21 : List Cond := [Cond.methodLink RL 133 yX3_items, Cond.instanceMethod yX3_items, Cond.selects RX3 yX3_items yX3_items, Cond.code yX3_items cX3_items 1 (some .int), Cond.methodLink RL 136 yX4_items, Cond.instanceMethod yX4_items, Cond.selects RX4 yX4_items yX4_items, Cond.code yX4_items cX4_items 1 (some .int), Cond.methodLink RL 137 yL_take, Cond.static yL_take, Cond.codeWith yL_take cL_take 5 (some .int) [(0, 10, 13, 21), (0, 10, 17, 13), (0, 10, 21, 19)], Cond.methodLink RL 57 yX3_take, Cond.instanceMethod yX3_take, Cond.selects RX3 yX3_take yX3_take, Cond.code yX3_take cX3_take 4 (some .int), Cond.fieldLink RX3 142 "TakeoffSheet$Item" "measure" "I", Cond.methodLink RX3 138 yX3_checkLeaf, Cond.static yX3_checkLeaf, Cond.code yX3_checkLeaf cX3_checkLeaf 1 none, Cond.methodLink RX3 147 yX0_takeAway, Cond.instanceMethod yX0_takeAway, Cond.selects RX0 yX0_takeAway yX0_takeAway, Cond.code yX0_takeAway cX0_takeAway 1 none, Cond.methodLink RL 139 yX4_take]
def wsL_law0_r22 : List Cond := [Cond.instanceMethod yX4_take, Cond.selects RX4 yX4_take yX4_take, Cond.code yX4_take cX4_take 4 (some .int), Cond.methodLink RL 140 yL_vary, Cond.static yL_vary, Cond.codeWith yL_vary cL_vary 5 (some .int) [(0, 10, 13, 21), (0, 10, 17, 13), (0, 10, 21, 19)], Cond.methodLink RL 60 yX3_vary, Cond.instanceMethod yX3_vary, Cond.selects RX3 yX3_vary yX3_vary, Cond.code yX3_vary cX3_vary 5 (some .int), Cond.fieldLink RX3 150 "TakeoffSheet$Item" "variation" "I", Cond.methodLink RL 142 yX4_vary, Cond.instanceMethod yX4_vary, Cond.selects RX4 yX4_vary yX4_vary, Cond.code yX4_vary cX4_vary 5 (some .int), Cond.methodLink RL 143 yL_quantity, Cond.static yL_quantity, Cond.codeWith yL_quantity cL_quantity 4 (some .int) [(0, 9, 12, 21), (0, 9, 15, 19)], Cond.methodLink RL 63 yX3_quantity, Cond.instanceMethod yX3_quantity, Cond.selects RX3 yX3_quantity yX3_quantity, Cond.code yX3_quantity cX3_quantity 3 (some .int), Cond.methodLink RX3 155 yX1_measureWithWaste, Cond.instanceMethod yX1_measureWithWaste]
def wsL_law0_r23 : List Cond := [Cond.selects RX1 yX1_measureWithWaste yX1_measureWithWaste, Cond.code yX1_measureWithWaste cX1_measureWithWaste 1 (some .long), Cond.fieldLink RX1 23 "TakeoffSheet$Item" "measure" "I", Cond.static yX3_hundredthsRoundedUp, Cond.code yX3_hundredthsRoundedUp cX3_hundredthsRoundedUp 2 (some .long), Cond.constantLong RX3 176 (100), Cond.methodLink RL 145 yX4_quantity, Cond.instanceMethod yX4_quantity, Cond.selects RX4 yX4_quantity yX4_quantity, Cond.code yX4_quantity cX4_quantity 3 (some .int), Cond.methodLink RX4 135 yX4_quantities, Cond.instanceMethod yX4_quantities, Cond.selects RX4 yX4_quantities yX4_quantities, Cond.code yX4_quantities cX4_quantities 2 (some .int), Cond.constantLong RX4 131 (99), Cond.constantLong RX4 133 (100), Cond.methodLink RL 146 yL_sum, Cond.static yL_sum, Cond.codeWith yL_sum cL_sum 4 (some .int) [(0, 8, 11, 21)], Cond.methodLink RL 66 yX3_sum, Cond.instanceMethod yX3_sum, Cond.selects RX3 yX3_sum yX3_sum, Cond.code yX3_sum cX3_sum 7 (some .long), Cond.methodLink RX3 159 yX1_standsUnder]
def wsL_law0_r24 : List Cond := [Cond.instanceMethod yX1_standsUnder, Cond.selects RX1 yX1_standsUnder yX1_standsUnder, Cond.code yX1_standsUnder cX1_standsUnder 3 (some .boolean), Cond.methodLink RX3 163 yX3_ownSum, Cond.instanceMethod yX3_ownSum, Cond.selects RX3 yX3_ownSum yX3_ownSum, Cond.code yX3_ownSum cX3_ownSum 2 (some .long), Cond.fieldLink RX3 219 "TakeoffSheet$Item" "rate" "LTakeoffSheet$Rate;", Cond.methodLink RX3 223 Lib.MathLoose.max_long.x, Cond.static Lib.MathLoose.max_long.x, Cond.code Lib.MathLoose.max_long.x Lib.MathLoose.max_long.code 4 (some .long), Cond.methodLink RL 148 yX4_sum, Cond.instanceMethod yX4_sum, Cond.selects RX4 yX4_sum yX4_sum, Cond.code yX4_sum cX4_sum 2 (some .long), Cond.methodLink RX4 138 yX4_fills, Cond.instanceMethod yX4_fills, Cond.selects RX4 yX4_fills yX4_fills, Cond.code yX4_fills cX4_fills 4 none, Cond.methodLink RL 149 yX3_total, Cond.instanceMethod yX3_total, Cond.selects RX3 yX3_total yX3_total, Cond.code yX3_total cX3_total 4 (some .long), Cond.methodLink RL 152 yX4_total]
def wsL_law0_r25 : List Cond := [Cond.instanceMethod yX4_total, Cond.selects RX4 yX4_total yX4_total, Cond.code yX4_total cX4_total 4 (some .long), Cond.methodLink RL 153 yL_dearest, Cond.static yL_dearest, Cond.codeWith yL_dearest cL_dearest 4 (some .int) [(0, 9, 12, 21)], Cond.methodLink RL 70 yX3_dearest, Cond.instanceMethod yX3_dearest, Cond.selects RX3 yX3_dearest yX3_dearest, Cond.code yX3_dearest cX3_dearest 8 (some .int), Cond.constantLong RX3 167 (-1), Cond.methodLink RL 155 yX4_dearest, Cond.instanceMethod yX4_dearest, Cond.selects RX4 yX4_dearest yX4_dearest, Cond.code yX4_dearest cX4_dearest 5 (some .int), Cond.methodLink RX4 141 yX4_isBelow, Cond.instanceMethod yX4_isBelow, Cond.selects RX4 yX4_isBelow yX4_isBelow, Cond.code yX4_isBelow cX4_isBelow 4 (some .boolean), Cond.methodLink RL 156 yL_done, Cond.static yL_done, Cond.codeWith yL_done cL_done 5 (some .int) [(0, 10, 13, 21), (0, 10, 17, 13), (0, 10, 21, 19)], Cond.methodLink RL 73 yX3_done, Cond.instanceMethod yX3_done]
def wsL_law0_r26 : List Cond := [Cond.selects RX3 yX3_done yX3_done, Cond.code yX3_done cX3_done 5 (some .int), Cond.fieldLink RX3 173 "TakeoffSheet$Item" "done" "I", Cond.methodLink RL 158 yX4_done, Cond.instanceMethod yX4_done, Cond.selects RX4 yX4_done yX4_done, Cond.code yX4_done cX4_done 5 (some .int), Cond.methodLink RL 159 yL_retention, Cond.static yL_retention, Cond.codeWith yL_retention cL_retention 4 (some .int) [(0, 9, 12, 13)], Cond.methodLink RL 76 yX3_retention, Cond.instanceMethod yX3_retention, Cond.selects RX3 yX3_retention yX3_retention, Cond.code yX3_retention cX3_retention 3 (some .int), Cond.methodLink RL 161 yX4_retention, Cond.instanceMethod yX4_retention, Cond.selects RX4 yX4_retention yX4_retention, Cond.code yX4_retention cX4_retention 3 (some .int), Cond.methodLink RL 162 yX3_worth, Cond.instanceMethod yX3_worth, Cond.selects RX3 yX3_worth yX3_worth, Cond.code yX3_worth cX3_worth 5 (some .long), Cond.methodLink RL 165 yX4_worth, Cond.instanceMethod yX4_worth]
def wsL_law0_r27 : List Cond := [Cond.selects RX4 yX4_worth yX4_worth, Cond.code yX4_worth cX4_worth 1 (some .long), Cond.methodLink RX4 145 yX4_worthNow, Cond.instanceMethod yX4_worthNow, Cond.selects RX4 yX4_worthNow yX4_worthNow, Cond.code yX4_worthNow cX4_worthNow 4 (some .long), Cond.methodLink RL 166 yX3_due, Cond.instanceMethod yX3_due, Cond.selects RX3 yX3_due yX3_due, Cond.code yX3_due cX3_due 3 (some .long), Cond.methodLink RX3 178 yX3_worth, Cond.methodLink RX3 181 yX3_hundredthsRoundedUp, Cond.methodLink RL 169 yX4_due, Cond.instanceMethod yX4_due, Cond.selects RX4 yX4_due yX4_due, Cond.code yX4_due cX4_due 1 (some .long), Cond.methodLink RX4 149 yX4_dueNow, Cond.instanceMethod yX4_dueNow, Cond.selects RX4 yX4_dueNow yX4_dueNow, Cond.code yX4_dueNow cX4_dueNow 3 (some .long), Cond.methodLink RL 170 yL_claim, Cond.static yL_claim, Cond.codeWith yL_claim cL_claim 3 (some .int) [(0, 7, 10, 19)], Cond.methodLink RL 79 yX3_claim]
def wsL_law0_r28 : List Cond := [Cond.instanceMethod yX3_claim, Cond.selects RX3 yX3_claim yX3_claim, Cond.code yX3_claim cX3_claim 3 (some .long), Cond.methodLink RX3 185 yX3_due, Cond.methodLink RL 172 yX4_claim, Cond.instanceMethod yX4_claim, Cond.selects RX4 yX4_claim yX4_claim, Cond.code yX4_claim cX4_claim 3 (some .long), Cond.fieldLink RX4 152 "TakeoffSheetModel" "claimed" "J", Cond.methodLink RL 173 yX3_claimed, Cond.instanceMethod yX3_claimed, Cond.selects RX3 yX3_claimed yX3_claimed, Cond.code yX3_claimed cX3_claimed 1 (some .long), Cond.methodLink RL 176 yX4_claimed, Cond.instanceMethod yX4_claimed, Cond.selects RX4 yX4_claimed yX4_claimed, Cond.code yX4_claimed cX4_claimed 1 (some .long)]
def wsL_law0 : List Cond := (wsL_law0_r1 ++ (wsL_law0_r2 ++ (wsL_law0_r3 ++ (wsL_law0_r4 ++ (wsL_law0_r5 ++ (wsL_law0_r6 ++ (wsL_law0_r7 ++ (wsL_law0_r8 ++ (wsL_law0_r9 ++ (wsL_law0_r10 ++ (wsL_law0_r11 ++ (wsL_law0_r12 ++ (wsL_law0_r13 ++ (wsL_law0_r14 ++ (wsL_law0_r15 ++ (wsL_law0_r16 ++ (wsL_law0_r17 ++ (wsL_law0_r18 ++ (wsL_law0_r19 ++ (wsL_law0_r20 ++ (wsL_law0_r21 ++ (wsL_law0_r22 ++ (wsL_law0_r23 ++ (wsL_law0_r24 ++ (wsL_law0_r25 ++ (wsL_law0_r26 ++ (wsL_law0_r27 ++ wsL_law0_r28))))))))))))))))))))))))))) ++ wsX30 ++ wsX40 ++ wsX00 ++ wsJx4a65c0 ++ wsX20 ++ wsX10 ++ ([] : List Cond)
def wsL_law : List Cond := wsL_law0 ++ (vx_atS RX3 194 "java/lang/IllegalArgumentException" ["java/lang/RuntimeException", "java/lang/Exception"]).filter goodWord ++ (vx_atS RX3 60 "java/lang/IllegalStateException" ["java/lang/RuntimeException", "java/lang/Exception"]).filter goodWord ++ (vx_atS RX3 71 "java/lang/IndexOutOfBoundsException" ["java/lang/RuntimeException", "java/lang/Exception"]).filter goodWord
end
section
theorem lwm {w : Cond} (i : Nat) (h : lw_tbl[i]? = some w) : w ∈ lw_tbl := List.mem_of_getElem? h
set_option maxRecDepth 20000 in
theorem wsL_law0_r1_in : ∀ w ∈ wsL_law0_r1, w ∈ lw_tbl := List.forall_mem_cons.mpr ⟨lwm 50 rfl, List.forall_mem_cons.mpr ⟨lwm 51 rfl, List.forall_mem_cons.mpr ⟨lwm 30 rfl, List.forall_mem_cons.mpr ⟨lwm 679 rfl, List.forall_mem_cons.mpr ⟨lwm 680 rfl, List.forall_mem_cons.mpr ⟨lwm 35 rfl, List.forall_mem_cons.mpr ⟨lwm 104 rfl, List.forall_mem_cons.mpr ⟨lwm 52 rfl, List.forall_mem_cons.mpr ⟨lwm 53 rfl, List.forall_mem_cons.mpr ⟨lwm 54 rfl, List.forall_mem_cons.mpr ⟨lwm 55 rfl, List.forall_mem_cons.mpr ⟨lwm 56 rfl, List.forall_mem_cons.mpr ⟨lwm 57 rfl, List.forall_mem_cons.mpr ⟨lwm 58 rfl, List.forall_mem_cons.mpr ⟨lwm 59 rfl, List.forall_mem_cons.mpr ⟨lwm 31 rfl, List.forall_mem_cons.mpr ⟨lwm 132 rfl, List.forall_mem_cons.mpr ⟨lwm 106 rfl, List.forall_mem_cons.mpr ⟨lwm 107 rfl, List.forall_mem_cons.mpr ⟨lwm 34 rfl, List.forall_mem_cons.mpr ⟨lwm 133 rfl, List.forall_mem_cons.mpr ⟨lwm 134 rfl, List.forall_mem_cons.mpr ⟨lwm 105 rfl, List.forall_mem_cons.mpr ⟨lwm 135 rfl, fun _ h => absurd h List.not_mem_nil⟩⟩⟩⟩⟩⟩⟩⟩⟩⟩⟩⟩⟩⟩⟩⟩⟩⟩⟩⟩⟩⟩⟩⟩
set_option maxRecDepth 20000 in
theorem wsL_law0_r2_in : ∀ w ∈ wsL_law0_r2, w ∈ lw_tbl := List.forall_mem_cons.mpr ⟨lwm 136 rfl, List.forall_mem_cons.mpr ⟨lwm 137 rfl, List.forall_mem_cons.mpr ⟨lwm 138 rfl, List.forall_mem_cons.mpr ⟨lwm 61 rfl, List.forall_mem_cons.mpr ⟨lwm 62 rfl, List.forall_mem_cons.mpr ⟨lwm 63 rfl, List.forall_mem_cons.mpr ⟨lwm 64 rfl, List.forall_mem_cons.mpr ⟨lwm 65 rfl, List.forall_mem_cons.mpr ⟨lwm 66 rfl, List.forall_mem_cons.mpr ⟨lwm 108 rfl, List.forall_mem_cons.mpr ⟨lwm 109 rfl, List.forall_mem_cons.mpr ⟨lwm 110 rfl, List.forall_mem_cons.mpr ⟨lwm 118 rfl, List.forall_mem_cons.mpr ⟨lwm 120 rfl, List.forall_mem_cons.mpr ⟨lwm 111 rfl, List.forall_mem_cons.mpr ⟨lwm 112 rfl, List.forall_mem_cons.mpr ⟨lwm 33 rfl, List.forall_mem_cons.mpr ⟨lwm 113 rfl, List.forall_mem_cons.mpr ⟨lwm 122 rfl, List.forall_mem_cons.mpr ⟨lwm 114 rfl, List.forall_mem_cons.mpr ⟨lwm 115 rfl, List.forall_mem_cons.mpr ⟨lwm 32 rfl, List.forall_mem_cons.mpr ⟨lwm 116 rfl, List.forall_mem_cons.mpr ⟨lwm 117 rfl, fun _ h => absurd h List.not_mem_nil⟩⟩⟩⟩⟩⟩⟩⟩⟩⟩⟩⟩⟩⟩⟩⟩⟩⟩⟩⟩⟩⟩⟩⟩
set_option maxRecDepth 20000 in
theorem wsL_law0_r3_in : ∀ w ∈ wsL_law0_r3, w ∈ lw_tbl := List.forall_mem_cons.mpr ⟨lwm 681 rfl, List.forall_mem_cons.mpr ⟨lwm 682 rfl, List.forall_mem_cons.mpr ⟨lwm 683 rfl, List.forall_mem_cons.mpr ⟨lwm 684 rfl, List.forall_mem_cons.mpr ⟨lwm 764 rfl, List.forall_mem_cons.mpr ⟨lwm 685 rfl, List.forall_mem_cons.mpr ⟨lwm 694 rfl, List.forall_mem_cons.mpr ⟨lwm 696 rfl, List.forall_mem_cons.mpr ⟨lwm 697 rfl, List.forall_mem_cons.mpr ⟨lwm 699 rfl, List.forall_mem_cons.mpr ⟨lwm 700 rfl, List.forall_mem_cons.mpr ⟨lwm 701 rfl, List.forall_mem_cons.mpr ⟨lwm 702 rfl, List.forall_mem_cons.mpr ⟨lwm 703 rfl, List.forall_mem_cons.mpr ⟨lwm 704 rfl, List.forall_mem_cons.mpr ⟨lwm 705 rfl, List.forall_mem_cons.mpr ⟨lwm 706 rfl, List.forall_mem_cons.mpr ⟨lwm 708 rfl, List.forall_mem_cons.mpr ⟨lwm 214 rfl, List.forall_mem_cons.mpr ⟨lwm 215 rfl, List.forall_mem_cons.mpr ⟨lwm 29 rfl, List.forall_mem_cons.mpr ⟨lwm 216 rfl, List.forall_mem_cons.mpr ⟨lwm 217 rfl, List.forall_mem_cons.mpr ⟨lwm 218 rfl, fun _ h => absurd h List.not_mem_nil⟩⟩⟩⟩⟩⟩⟩⟩⟩⟩⟩⟩⟩⟩⟩⟩⟩⟩⟩⟩⟩⟩⟩⟩
set_option maxRecDepth 20000 in
theorem wsL_law0_r4_in : ∀ w ∈ wsL_law0_r4, w ∈ lw_tbl := List.forall_mem_cons.mpr ⟨lwm 219 rfl, List.forall_mem_cons.mpr ⟨lwm 220 rfl, List.forall_mem_cons.mpr ⟨lwm 221 rfl, List.forall_mem_cons.mpr ⟨lwm 222 rfl, List.forall_mem_cons.mpr ⟨lwm 223 rfl, List.forall_mem_cons.mpr ⟨lwm 224 rfl, List.forall_mem_cons.mpr ⟨lwm 225 rfl, List.forall_mem_cons.mpr ⟨lwm 39 rfl, List.forall_mem_cons.mpr ⟨lwm 293 rfl, List.forall_mem_cons.mpr ⟨lwm 294 rfl, List.forall_mem_cons.mpr ⟨lwm 295 rfl, List.forall_mem_cons.mpr ⟨lwm 296 rfl, List.forall_mem_cons.mpr ⟨lwm 67 rfl, List.forall_mem_cons.mpr ⟨lwm 73 rfl, List.forall_mem_cons.mpr ⟨lwm 74 rfl, List.forall_mem_cons.mpr ⟨lwm 69 rfl, List.forall_mem_cons.mpr ⟨lwm 70 rfl, List.forall_mem_cons.mpr ⟨lwm 71 rfl, List.forall_mem_cons.mpr ⟨lwm 72 rfl, List.forall_mem_cons.mpr ⟨lwm 75 rfl, List.forall_mem_cons.mpr ⟨lwm 77 rfl, List.forall_mem_cons.mpr ⟨lwm 297 rfl, List.forall_mem_cons.mpr ⟨lwm 298 rfl, List.forall_mem_cons.mpr ⟨lwm 40 rfl, fun _ h => absurd h List.not_mem_nil⟩⟩⟩⟩⟩⟩⟩⟩⟩⟩⟩⟩⟩⟩⟩⟩⟩⟩⟩⟩⟩⟩⟩⟩
set_option maxRecDepth 20000 in
theorem wsL_law0_r5_in : ∀ w ∈ wsL_law0_r5, w ∈ lw_tbl := List.forall_mem_cons.mpr ⟨lwm 299 rfl, List.forall_mem_cons.mpr ⟨lwm 300 rfl, List.forall_mem_cons.mpr ⟨lwm 301 rfl, List.forall_mem_cons.mpr ⟨lwm 302 rfl, List.forall_mem_cons.mpr ⟨lwm 303 rfl, List.forall_mem_cons.mpr ⟨lwm 304 rfl, List.forall_mem_cons.mpr ⟨lwm 305 rfl, List.forall_mem_cons.mpr ⟨lwm 306 rfl, List.forall_mem_cons.mpr ⟨lwm 307 rfl, List.forall_mem_cons.mpr ⟨lwm 308 rfl, List.forall_mem_cons.mpr ⟨lwm 769 rfl, List.forall_mem_cons.mpr ⟨lwm 770 rfl, List.forall_mem_cons.mpr ⟨lwm 771 rfl, List.forall_mem_cons.mpr ⟨lwm 772 rfl, List.forall_mem_cons.mpr ⟨lwm 686 rfl, List.forall_mem_cons.mpr ⟨lwm 687 rfl, List.forall_mem_cons.mpr ⟨lwm 688 rfl, List.forall_mem_cons.mpr ⟨lwm 689 rfl, List.forall_mem_cons.mpr ⟨lwm 690 rfl, List.forall_mem_cons.mpr ⟨lwm 691 rfl, List.forall_mem_cons.mpr ⟨lwm 692 rfl, List.forall_mem_cons.mpr ⟨lwm 693 rfl, List.forall_mem_cons.mpr ⟨lwm 695 rfl, List.forall_mem_cons.mpr ⟨lwm 773 rfl, fun _ h => absurd h List.not_mem_nil⟩⟩⟩⟩⟩⟩⟩⟩⟩⟩⟩⟩⟩⟩⟩⟩⟩⟩⟩⟩⟩⟩⟩⟩
set_option maxRecDepth 20000 in
theorem wsL_law0_r6_in : ∀ w ∈ wsL_law0_r6, w ∈ lw_tbl := List.forall_mem_cons.mpr ⟨lwm 774 rfl, List.forall_mem_cons.mpr ⟨lwm 775 rfl, List.forall_mem_cons.mpr ⟨lwm 776 rfl, List.forall_mem_cons.mpr ⟨lwm 778 rfl, List.forall_mem_cons.mpr ⟨lwm 14 rfl, List.forall_mem_cons.mpr ⟨lwm 779 rfl, List.forall_mem_cons.mpr ⟨lwm 710 rfl, List.forall_mem_cons.mpr ⟨lwm 765 rfl, List.forall_mem_cons.mpr ⟨lwm 766 rfl, List.forall_mem_cons.mpr ⟨lwm 767 rfl, List.forall_mem_cons.mpr ⟨lwm 768 rfl, List.forall_mem_cons.mpr ⟨lwm 309 rfl, List.forall_mem_cons.mpr ⟨lwm 310 rfl, List.forall_mem_cons.mpr ⟨lwm 311 rfl, List.forall_mem_cons.mpr ⟨lwm 312 rfl, List.forall_mem_cons.mpr ⟨lwm 313 rfl, List.forall_mem_cons.mpr ⟨lwm 314 rfl, List.forall_mem_cons.mpr ⟨lwm 315 rfl, List.forall_mem_cons.mpr ⟨lwm 316 rfl, List.forall_mem_cons.mpr ⟨lwm 317 rfl, List.forall_mem_cons.mpr ⟨lwm 318 rfl, List.forall_mem_cons.mpr ⟨lwm 41 rfl, List.forall_mem_cons.mpr ⟨lwm 355 rfl, List.forall_mem_cons.mpr ⟨lwm 42 rfl, fun _ h => absurd h List.not_mem_nil⟩⟩⟩⟩⟩⟩⟩⟩⟩⟩⟩⟩⟩⟩⟩⟩⟩⟩⟩⟩⟩⟩⟩⟩
set_option maxRecDepth 20000 in
theorem wsL_law0_r7_in : ∀ w ∈ wsL_law0_r7, w ∈ lw_tbl := List.forall_mem_cons.mpr ⟨lwm 76 rfl, List.forall_mem_cons.mpr ⟨lwm 78 rfl, List.forall_mem_cons.mpr ⟨lwm 334 rfl, List.forall_mem_cons.mpr ⟨lwm 335 rfl, List.forall_mem_cons.mpr ⟨lwm 336 rfl, List.forall_mem_cons.mpr ⟨lwm 337 rfl, List.forall_mem_cons.mpr ⟨lwm 338 rfl, List.forall_mem_cons.mpr ⟨lwm 339 rfl, List.forall_mem_cons.mpr ⟨lwm 340 rfl, List.forall_mem_cons.mpr ⟨lwm 341 rfl, List.forall_mem_cons.mpr ⟨lwm 342 rfl, List.forall_mem_cons.mpr ⟨lwm 343 rfl, List.forall_mem_cons.mpr ⟨lwm 344 rfl, List.forall_mem_cons.mpr ⟨lwm 346 rfl, List.forall_mem_cons.mpr ⟨lwm 3 rfl, List.forall_mem_cons.mpr ⟨lwm 347 rfl, List.forall_mem_cons.mpr ⟨lwm 348 rfl, List.forall_mem_cons.mpr ⟨lwm 349 rfl, List.forall_mem_cons.mpr ⟨lwm 350 rfl, List.forall_mem_cons.mpr ⟨lwm 351 rfl, List.forall_mem_cons.mpr ⟨lwm 353 rfl, List.forall_mem_cons.mpr ⟨lwm 4 rfl, List.forall_mem_cons.mpr ⟨lwm 354 rfl, List.forall_mem_cons.mpr ⟨lwm 371 rfl, fun _ h => absurd h List.not_mem_nil⟩⟩⟩⟩⟩⟩⟩⟩⟩⟩⟩⟩⟩⟩⟩⟩⟩⟩⟩⟩⟩⟩⟩⟩
set_option maxRecDepth 20000 in
theorem wsL_law0_r8_in : ∀ w ∈ wsL_law0_r8, w ∈ lw_tbl := List.forall_mem_cons.mpr ⟨lwm 372 rfl, List.forall_mem_cons.mpr ⟨lwm 373 rfl, List.forall_mem_cons.mpr ⟨lwm 374 rfl, List.forall_mem_cons.mpr ⟨lwm 375 rfl, List.forall_mem_cons.mpr ⟨lwm 376 rfl, List.forall_mem_cons.mpr ⟨lwm 43 rfl, List.forall_mem_cons.mpr ⟨lwm 377 rfl, List.forall_mem_cons.mpr ⟨lwm 378 rfl, List.forall_mem_cons.mpr ⟨lwm 379 rfl, List.forall_mem_cons.mpr ⟨lwm 380 rfl, List.forall_mem_cons.mpr ⟨lwm 780 rfl, List.forall_mem_cons.mpr ⟨lwm 781 rfl, List.forall_mem_cons.mpr ⟨lwm 782 rfl, List.forall_mem_cons.mpr ⟨lwm 783 rfl, List.forall_mem_cons.mpr ⟨lwm 784 rfl, List.forall_mem_cons.mpr ⟨lwm 786 rfl, List.forall_mem_cons.mpr ⟨lwm 15 rfl, List.forall_mem_cons.mpr ⟨lwm 787 rfl, List.forall_mem_cons.mpr ⟨lwm 381 rfl, List.forall_mem_cons.mpr ⟨lwm 382 rfl, List.forall_mem_cons.mpr ⟨lwm 383 rfl, List.forall_mem_cons.mpr ⟨lwm 384 rfl, List.forall_mem_cons.mpr ⟨lwm 385 rfl, List.forall_mem_cons.mpr ⟨lwm 386 rfl, fun _ h => absurd h List.not_mem_nil⟩⟩⟩⟩⟩⟩⟩⟩⟩⟩⟩⟩⟩⟩⟩⟩⟩⟩⟩⟩⟩⟩⟩⟩
set_option maxRecDepth 20000 in
theorem wsL_law0_r9_in : ∀ w ∈ wsL_law0_r9, w ∈ lw_tbl := List.forall_mem_cons.mpr ⟨lwm 387 rfl, List.forall_mem_cons.mpr ⟨lwm 68 rfl, List.forall_mem_cons.mpr ⟨lwm 388 rfl, List.forall_mem_cons.mpr ⟨lwm 390 rfl, List.forall_mem_cons.mpr ⟨lwm 5 rfl, List.forall_mem_cons.mpr ⟨lwm 391 rfl, List.forall_mem_cons.mpr ⟨lwm 393 rfl, List.forall_mem_cons.mpr ⟨lwm 394 rfl, List.forall_mem_cons.mpr ⟨lwm 395 rfl, List.forall_mem_cons.mpr ⟨lwm 396 rfl, List.forall_mem_cons.mpr ⟨lwm 788 rfl, List.forall_mem_cons.mpr ⟨lwm 789 rfl, List.forall_mem_cons.mpr ⟨lwm 790 rfl, List.forall_mem_cons.mpr ⟨lwm 791 rfl, List.forall_mem_cons.mpr ⟨lwm 398 rfl, List.forall_mem_cons.mpr ⟨lwm 399 rfl, List.forall_mem_cons.mpr ⟨lwm 400 rfl, List.forall_mem_cons.mpr ⟨lwm 401 rfl, List.forall_mem_cons.mpr ⟨lwm 402 rfl, List.forall_mem_cons.mpr ⟨lwm 403 rfl, List.forall_mem_cons.mpr ⟨lwm 404 rfl, List.forall_mem_cons.mpr ⟨lwm 792 rfl, List.forall_mem_cons.mpr ⟨lwm 793 rfl, List.forall_mem_cons.mpr ⟨lwm 794 rfl, fun _ h => absurd h List.not_mem_nil⟩⟩⟩⟩⟩⟩⟩⟩⟩⟩⟩⟩⟩⟩⟩⟩⟩⟩⟩⟩⟩⟩⟩⟩
set_option maxRecDepth 20000 in
theorem wsL_law0_r10_in : ∀ w ∈ wsL_law0_r10, w ∈ lw_tbl := List.forall_mem_cons.mpr ⟨lwm 795 rfl, List.forall_mem_cons.mpr ⟨lwm 405 rfl, List.forall_mem_cons.mpr ⟨lwm 406 rfl, List.forall_mem_cons.mpr ⟨lwm 407 rfl, List.forall_mem_cons.mpr ⟨lwm 408 rfl, List.forall_mem_cons.mpr ⟨lwm 409 rfl, List.forall_mem_cons.mpr ⟨lwm 410 rfl, List.forall_mem_cons.mpr ⟨lwm 411 rfl, List.forall_mem_cons.mpr ⟨lwm 412 rfl, List.forall_mem_cons.mpr ⟨lwm 413 rfl, List.forall_mem_cons.mpr ⟨lwm 414 rfl, List.forall_mem_cons.mpr ⟨lwm 415 rfl, List.forall_mem_cons.mpr ⟨lwm 416 rfl, List.forall_mem_cons.mpr ⟨lwm 417 rfl, List.forall_mem_cons.mpr ⟨lwm 418 rfl, List.forall_mem_cons.mpr ⟨lwm 796 rfl, List.forall_mem_cons.mpr ⟨lwm 797 rfl, List.forall_mem_cons.mpr ⟨lwm 798 rfl, List.forall_mem_cons.mpr ⟨lwm 799 rfl, List.forall_mem_cons.mpr ⟨lwm 800 rfl, List.forall_mem_cons.mpr ⟨lwm 802 rfl, List.forall_mem_cons.mpr ⟨lwm 16 rfl, List.forall_mem_cons.mpr ⟨lwm 803 rfl, List.forall_mem_cons.mpr ⟨lwm 419 rfl, fun _ h => absurd h List.not_mem_nil⟩⟩⟩⟩⟩⟩⟩⟩⟩⟩⟩⟩⟩⟩⟩⟩⟩⟩⟩⟩⟩⟩⟩⟩
set_option maxRecDepth 20000 in
theorem wsL_law0_r11_in : ∀ w ∈ wsL_law0_r11, w ∈ lw_tbl := List.forall_mem_cons.mpr ⟨lwm 420 rfl, List.forall_mem_cons.mpr ⟨lwm 421 rfl, List.forall_mem_cons.mpr ⟨lwm 422 rfl, List.forall_mem_cons.mpr ⟨lwm 423 rfl, List.forall_mem_cons.mpr ⟨lwm 424 rfl, List.forall_mem_cons.mpr ⟨lwm 425 rfl, List.forall_mem_cons.mpr ⟨lwm 426 rfl, List.forall_mem_cons.mpr ⟨lwm 427 rfl, List.forall_mem_cons.mpr ⟨lwm 428 rfl, List.forall_mem_cons.mpr ⟨lwm 429 rfl, List.forall_mem_cons.mpr ⟨lwm 430 rfl, List.forall_mem_cons.mpr ⟨lwm 432 rfl, List.forall_mem_cons.mpr ⟨lwm 6 rfl, List.forall_mem_cons.mpr ⟨lwm 433 rfl, List.forall_mem_cons.mpr ⟨lwm 804 rfl, List.forall_mem_cons.mpr ⟨lwm 805 rfl, List.forall_mem_cons.mpr ⟨lwm 806 rfl, List.forall_mem_cons.mpr ⟨lwm 807 rfl, List.forall_mem_cons.mpr ⟨lwm 808 rfl, List.forall_mem_cons.mpr ⟨lwm 434 rfl, List.forall_mem_cons.mpr ⟨lwm 435 rfl, List.forall_mem_cons.mpr ⟨lwm 436 rfl, List.forall_mem_cons.mpr ⟨lwm 437 rfl, List.forall_mem_cons.mpr ⟨lwm 438 rfl, fun _ h => absurd h List.not_mem_nil⟩⟩⟩⟩⟩⟩⟩⟩⟩⟩⟩⟩⟩⟩⟩⟩⟩⟩⟩⟩⟩⟩⟩⟩
set_option maxRecDepth 20000 in
theorem wsL_law0_r12_in : ∀ w ∈ wsL_law0_r12, w ∈ lw_tbl := List.forall_mem_cons.mpr ⟨lwm 439 rfl, List.forall_mem_cons.mpr ⟨lwm 440 rfl, List.forall_mem_cons.mpr ⟨lwm 441 rfl, List.forall_mem_cons.mpr ⟨lwm 442 rfl, List.forall_mem_cons.mpr ⟨lwm 443 rfl, List.forall_mem_cons.mpr ⟨lwm 444 rfl, List.forall_mem_cons.mpr ⟨lwm 445 rfl, List.forall_mem_cons.mpr ⟨lwm 809 rfl, List.forall_mem_cons.mpr ⟨lwm 810 rfl, List.forall_mem_cons.mpr ⟨lwm 811 rfl, List.forall_mem_cons.mpr ⟨lwm 812 rfl, List.forall_mem_cons.mpr ⟨lwm 813 rfl, List.forall_mem_cons.mpr ⟨lwm 815 rfl, List.forall_mem_cons.mpr ⟨lwm 17 rfl, List.forall_mem_cons.mpr ⟨lwm 816 rfl, List.forall_mem_cons.mpr ⟨lwm 446 rfl, List.forall_mem_cons.mpr ⟨lwm 447 rfl, List.forall_mem_cons.mpr ⟨lwm 448 rfl, List.forall_mem_cons.mpr ⟨lwm 449 rfl, List.forall_mem_cons.mpr ⟨lwm 450 rfl, List.forall_mem_cons.mpr ⟨lwm 451 rfl, List.forall_mem_cons.mpr ⟨lwm 452 rfl, List.forall_mem_cons.mpr ⟨lwm 453 rfl, List.forall_mem_cons.mpr ⟨lwm 453 rfl, fun _ h => absurd h List.not_mem_nil⟩⟩⟩⟩⟩⟩⟩⟩⟩⟩⟩⟩⟩⟩⟩⟩⟩⟩⟩⟩⟩⟩⟩⟩
set_option maxRecDepth 20000 in
theorem wsL_law0_r13_in : ∀ w ∈ wsL_law0_r13, w ∈ lw_tbl := List.forall_mem_cons.mpr ⟨lwm 459 rfl, List.forall_mem_cons.mpr ⟨lwm 46 rfl, List.forall_mem_cons.mpr ⟨lwm 158 rfl, List.forall_mem_cons.mpr ⟨lwm 159 rfl, List.forall_mem_cons.mpr ⟨lwm 160 rfl, List.forall_mem_cons.mpr ⟨lwm 161 rfl, List.forall_mem_cons.mpr ⟨lwm 121 rfl, List.forall_mem_cons.mpr ⟨lwm 166 rfl, List.forall_mem_cons.mpr ⟨lwm 167 rfl, List.forall_mem_cons.mpr ⟨lwm 168 rfl, List.forall_mem_cons.mpr ⟨lwm 169 rfl, List.forall_mem_cons.mpr ⟨lwm 170 rfl, List.forall_mem_cons.mpr ⟨lwm 171 rfl, List.forall_mem_cons.mpr ⟨lwm 44 rfl, List.forall_mem_cons.mpr ⟨lwm 172 rfl, List.forall_mem_cons.mpr ⟨lwm 173 rfl, List.forall_mem_cons.mpr ⟨lwm 174 rfl, List.forall_mem_cons.mpr ⟨lwm 45 rfl, List.forall_mem_cons.mpr ⟨lwm 175 rfl, List.forall_mem_cons.mpr ⟨lwm 176 rfl, List.forall_mem_cons.mpr ⟨lwm 177 rfl, List.forall_mem_cons.mpr ⟨lwm 178 rfl, List.forall_mem_cons.mpr ⟨lwm 179 rfl, List.forall_mem_cons.mpr ⟨lwm 454 rfl, fun _ h => absurd h List.not_mem_nil⟩⟩⟩⟩⟩⟩⟩⟩⟩⟩⟩⟩⟩⟩⟩⟩⟩⟩⟩⟩⟩⟩⟩⟩
set_option maxRecDepth 20000 in
theorem wsL_law0_r14_in : ∀ w ∈ wsL_law0_r14, w ∈ lw_tbl := List.forall_mem_cons.mpr ⟨lwm 455 rfl, List.forall_mem_cons.mpr ⟨lwm 456 rfl, List.forall_mem_cons.mpr ⟨lwm 457 rfl, List.forall_mem_cons.mpr ⟨lwm 464 rfl, List.forall_mem_cons.mpr ⟨lwm 466 rfl, List.forall_mem_cons.mpr ⟨lwm 468 rfl, List.forall_mem_cons.mpr ⟨lwm 460 rfl, List.forall_mem_cons.mpr ⟨lwm 461 rfl, List.forall_mem_cons.mpr ⟨lwm 462 rfl, List.forall_mem_cons.mpr ⟨lwm 463 rfl, List.forall_mem_cons.mpr ⟨lwm 477 rfl, List.forall_mem_cons.mpr ⟨lwm 478 rfl, List.forall_mem_cons.mpr ⟨lwm 479 rfl, List.forall_mem_cons.mpr ⟨lwm 480 rfl, List.forall_mem_cons.mpr ⟨lwm 123 rfl, List.forall_mem_cons.mpr ⟨lwm 124 rfl, List.forall_mem_cons.mpr ⟨lwm 481 rfl, List.forall_mem_cons.mpr ⟨lwm 483 rfl, List.forall_mem_cons.mpr ⟨lwm 7 rfl, List.forall_mem_cons.mpr ⟨lwm 484 rfl, List.forall_mem_cons.mpr ⟨lwm 485 rfl, List.forall_mem_cons.mpr ⟨lwm 487 rfl, List.forall_mem_cons.mpr ⟨lwm 8 rfl, List.forall_mem_cons.mpr ⟨lwm 488 rfl, fun _ h => absurd h List.not_mem_nil⟩⟩⟩⟩⟩⟩⟩⟩⟩⟩⟩⟩⟩⟩⟩⟩⟩⟩⟩⟩⟩⟩⟩⟩
set_option maxRecDepth 20000 in
theorem wsL_law0_r15_in : ∀ w ∈ wsL_law0_r15, w ∈ lw_tbl := List.forall_mem_cons.mpr ⟨lwm 489 rfl, List.forall_mem_cons.mpr ⟨lwm 491 rfl, List.forall_mem_cons.mpr ⟨lwm 9 rfl, List.forall_mem_cons.mpr ⟨lwm 492 rfl, List.forall_mem_cons.mpr ⟨lwm 527 rfl, List.forall_mem_cons.mpr ⟨lwm 528 rfl, List.forall_mem_cons.mpr ⟨lwm 493 rfl, List.forall_mem_cons.mpr ⟨lwm 494 rfl, List.forall_mem_cons.mpr ⟨lwm 47 rfl, List.forall_mem_cons.mpr ⟨lwm 495 rfl, List.forall_mem_cons.mpr ⟨lwm 496 rfl, List.forall_mem_cons.mpr ⟨lwm 497 rfl, List.forall_mem_cons.mpr ⟨lwm 498 rfl, List.forall_mem_cons.mpr ⟨lwm 499 rfl, List.forall_mem_cons.mpr ⟨lwm 500 rfl, List.forall_mem_cons.mpr ⟨lwm 501 rfl, List.forall_mem_cons.mpr ⟨lwm 502 rfl, List.forall_mem_cons.mpr ⟨lwm 503 rfl, List.forall_mem_cons.mpr ⟨lwm 504 rfl, List.forall_mem_cons.mpr ⟨lwm 948 rfl, List.forall_mem_cons.mpr ⟨lwm 505 rfl, List.forall_mem_cons.mpr ⟨lwm 516 rfl, List.forall_mem_cons.mpr ⟨lwm 517 rfl, List.forall_mem_cons.mpr ⟨lwm 518 rfl, fun _ h => absurd h List.not_mem_nil⟩⟩⟩⟩⟩⟩⟩⟩⟩⟩⟩⟩⟩⟩⟩⟩⟩⟩⟩⟩⟩⟩⟩⟩
set_option maxRecDepth 20000 in
theorem wsL_law0_r16_in : ∀ w ∈ wsL_law0_r16, w ∈ lw_tbl := List.forall_mem_cons.mpr ⟨lwm 519 rfl, List.forall_mem_cons.mpr ⟨lwm 520 rfl, List.forall_mem_cons.mpr ⟨lwm 522 rfl, List.forall_mem_cons.mpr ⟨lwm 523 rfl, List.forall_mem_cons.mpr ⟨lwm 524 rfl, List.forall_mem_cons.mpr ⟨lwm 526 rfl, List.forall_mem_cons.mpr ⟨lwm 525 rfl, List.forall_mem_cons.mpr ⟨lwm 48 rfl, List.forall_mem_cons.mpr ⟨lwm 817 rfl, List.forall_mem_cons.mpr ⟨lwm 818 rfl, List.forall_mem_cons.mpr ⟨lwm 819 rfl, List.forall_mem_cons.mpr ⟨lwm 820 rfl, List.forall_mem_cons.mpr ⟨lwm 698 rfl, List.forall_mem_cons.mpr ⟨lwm 529 rfl, List.forall_mem_cons.mpr ⟨lwm 530 rfl, List.forall_mem_cons.mpr ⟨lwm 531 rfl, List.forall_mem_cons.mpr ⟨lwm 532 rfl, List.forall_mem_cons.mpr ⟨lwm 533 rfl, List.forall_mem_cons.mpr ⟨lwm 534 rfl, List.forall_mem_cons.mpr ⟨lwm 535 rfl, List.forall_mem_cons.mpr ⟨lwm 821 rfl, List.forall_mem_cons.mpr ⟨lwm 822 rfl, List.forall_mem_cons.mpr ⟨lwm 823 rfl, List.forall_mem_cons.mpr ⟨lwm 824 rfl, fun _ h => absurd h List.not_mem_nil⟩⟩⟩⟩⟩⟩⟩⟩⟩⟩⟩⟩⟩⟩⟩⟩⟩⟩⟩⟩⟩⟩⟩⟩
set_option maxRecDepth 20000 in
theorem wsL_law0_r17_in : ∀ w ∈ wsL_law0_r17, w ∈ lw_tbl := List.forall_mem_cons.mpr ⟨lwm 536 rfl, List.forall_mem_cons.mpr ⟨lwm 537 rfl, List.forall_mem_cons.mpr ⟨lwm 538 rfl, List.forall_mem_cons.mpr ⟨lwm 539 rfl, List.forall_mem_cons.mpr ⟨lwm 540 rfl, List.forall_mem_cons.mpr ⟨lwm 541 rfl, List.forall_mem_cons.mpr ⟨lwm 542 rfl, List.forall_mem_cons.mpr ⟨lwm 543 rfl, List.forall_mem_cons.mpr ⟨lwm 545 rfl, List.forall_mem_cons.mpr ⟨lwm 10 rfl, List.forall_mem_cons.mpr ⟨lwm 546 rfl, List.forall_mem_cons.mpr ⟨lwm 196 rfl, List.forall_mem_cons.mpr ⟨lwm 198 rfl, List.forall_mem_cons.mpr ⟨lwm 1 rfl, List.forall_mem_cons.mpr ⟨lwm 199 rfl, List.forall_mem_cons.mpr ⟨lwm 465 rfl, List.forall_mem_cons.mpr ⟨lwm 467 rfl, List.forall_mem_cons.mpr ⟨lwm 469 rfl, List.forall_mem_cons.mpr ⟨lwm 825 rfl, List.forall_mem_cons.mpr ⟨lwm 826 rfl, List.forall_mem_cons.mpr ⟨lwm 827 rfl, List.forall_mem_cons.mpr ⟨lwm 828 rfl, List.forall_mem_cons.mpr ⟨lwm 829 rfl, List.forall_mem_cons.mpr ⟨lwm 831 rfl, fun _ h => absurd h List.not_mem_nil⟩⟩⟩⟩⟩⟩⟩⟩⟩⟩⟩⟩⟩⟩⟩⟩⟩⟩⟩⟩⟩⟩⟩⟩
set_option maxRecDepth 20000 in
theorem wsL_law0_r18_in : ∀ w ∈ wsL_law0_r18, w ∈ lw_tbl := List.forall_mem_cons.mpr ⟨lwm 18 rfl, List.forall_mem_cons.mpr ⟨lwm 832 rfl, List.forall_mem_cons.mpr ⟨lwm 833 rfl, List.forall_mem_cons.mpr ⟨lwm 835 rfl, List.forall_mem_cons.mpr ⟨lwm 19 rfl, List.forall_mem_cons.mpr ⟨lwm 836 rfl, List.forall_mem_cons.mpr ⟨lwm 548 rfl, List.forall_mem_cons.mpr ⟨lwm 549 rfl, List.forall_mem_cons.mpr ⟨lwm 550 rfl, List.forall_mem_cons.mpr ⟨lwm 551 rfl, List.forall_mem_cons.mpr ⟨lwm 552 rfl, List.forall_mem_cons.mpr ⟨lwm 553 rfl, List.forall_mem_cons.mpr ⟨lwm 554 rfl, List.forall_mem_cons.mpr ⟨lwm 555 rfl, List.forall_mem_cons.mpr ⟨lwm 557 rfl, List.forall_mem_cons.mpr ⟨lwm 11 rfl, List.forall_mem_cons.mpr ⟨lwm 558 rfl, List.forall_mem_cons.mpr ⟨lwm 559 rfl, List.forall_mem_cons.mpr ⟨lwm 561 rfl, List.forall_mem_cons.mpr ⟨lwm 12 rfl, List.forall_mem_cons.mpr ⟨lwm 562 rfl, List.forall_mem_cons.mpr ⟨lwm 180 rfl, List.forall_mem_cons.mpr ⟨lwm 564 rfl, List.forall_mem_cons.mpr ⟨lwm 566 rfl, fun _ h => absurd h List.not_mem_nil⟩⟩⟩⟩⟩⟩⟩⟩⟩⟩⟩⟩⟩⟩⟩⟩⟩⟩⟩⟩⟩⟩⟩⟩
set_option maxRecDepth 20000 in
theorem wsL_law0_r19_in : ∀ w ∈ wsL_law0_r19, w ∈ lw_tbl := List.forall_mem_cons.mpr ⟨lwm 13 rfl, List.forall_mem_cons.mpr ⟨lwm 567 rfl, List.forall_mem_cons.mpr ⟨lwm 180 rfl, List.forall_mem_cons.mpr ⟨lwm 574 rfl, List.forall_mem_cons.mpr ⟨lwm 49 rfl, List.forall_mem_cons.mpr ⟨lwm 568 rfl, List.forall_mem_cons.mpr ⟨lwm 569 rfl, List.forall_mem_cons.mpr ⟨lwm 570 rfl, List.forall_mem_cons.mpr ⟨lwm 571 rfl, List.forall_mem_cons.mpr ⟨lwm 580 rfl, List.forall_mem_cons.mpr ⟨lwm 575 rfl, List.forall_mem_cons.mpr ⟨lwm 576 rfl, List.forall_mem_cons.mpr ⟨lwm 577 rfl, List.forall_mem_cons.mpr ⟨lwm 578 rfl, List.forall_mem_cons.mpr ⟨lwm 579 rfl, List.forall_mem_cons.mpr ⟨lwm 582 rfl, List.forall_mem_cons.mpr ⟨lwm 837 rfl, List.forall_mem_cons.mpr ⟨lwm 838 rfl, List.forall_mem_cons.mpr ⟨lwm 839 rfl, List.forall_mem_cons.mpr ⟨lwm 840 rfl, List.forall_mem_cons.mpr ⟨lwm 707 rfl, List.forall_mem_cons.mpr ⟨lwm 841 rfl, List.forall_mem_cons.mpr ⟨lwm 843 rfl, List.forall_mem_cons.mpr ⟨lwm 20 rfl, fun _ h => absurd h List.not_mem_nil⟩⟩⟩⟩⟩⟩⟩⟩⟩⟩⟩⟩⟩⟩⟩⟩⟩⟩⟩⟩⟩⟩⟩⟩
set_option maxRecDepth 20000 in
theorem wsL_law0_r20_in : ∀ w ∈ wsL_law0_r20, w ∈ lw_tbl := List.forall_mem_cons.mpr ⟨lwm 844 rfl, List.forall_mem_cons.mpr ⟨lwm 845 rfl, List.forall_mem_cons.mpr ⟨lwm 847 rfl, List.forall_mem_cons.mpr ⟨lwm 21 rfl, List.forall_mem_cons.mpr ⟨lwm 848 rfl, List.forall_mem_cons.mpr ⟨lwm 849 rfl, List.forall_mem_cons.mpr ⟨lwm 851 rfl, List.forall_mem_cons.mpr ⟨lwm 22 rfl, List.forall_mem_cons.mpr ⟨lwm 852 rfl, List.forall_mem_cons.mpr ⟨lwm 853 rfl, List.forall_mem_cons.mpr ⟨lwm 855 rfl, List.forall_mem_cons.mpr ⟨lwm 23 rfl, List.forall_mem_cons.mpr ⟨lwm 856 rfl, List.forall_mem_cons.mpr ⟨lwm 600 rfl, List.forall_mem_cons.mpr ⟨lwm 601 rfl, List.forall_mem_cons.mpr ⟨lwm 602 rfl, List.forall_mem_cons.mpr ⟨lwm 603 rfl, List.forall_mem_cons.mpr ⟨lwm 604 rfl, List.forall_mem_cons.mpr ⟨lwm 605 rfl, List.forall_mem_cons.mpr ⟨lwm 606 rfl, List.forall_mem_cons.mpr ⟨lwm 857 rfl, List.forall_mem_cons.mpr ⟨lwm 858 rfl, List.forall_mem_cons.mpr ⟨lwm 859 rfl, List.forall_mem_cons.mpr ⟨lwm 860 rfl, fun _ h => absurd h List.not_mem_nil⟩⟩⟩⟩⟩⟩⟩⟩⟩⟩⟩⟩⟩⟩⟩⟩⟩⟩⟩⟩⟩⟩⟩⟩
set_option maxRecDepth 20000 in
theorem wsL_law0_r21_in : ∀ w ∈ wsL_law0_r21, w ∈ lw_tbl := List.forall_mem_cons.mpr ⟨lwm 154 rfl, List.forall_mem_cons.mpr ⟨lwm 155 rfl, List.forall_mem_cons.mpr ⟨lwm 156 rfl, List.forall_mem_cons.mpr ⟨lwm 157 rfl, List.forall_mem_cons.mpr ⟨lwm 861 rfl, List.forall_mem_cons.mpr ⟨lwm 862 rfl, List.forall_mem_cons.mpr ⟨lwm 863 rfl, List.forall_mem_cons.mpr ⟨lwm 864 rfl, List.forall_mem_cons.mpr ⟨lwm 607 rfl, List.forall_mem_cons.mpr ⟨lwm 608 rfl, List.forall_mem_cons.mpr ⟨lwm 609 rfl, List.forall_mem_cons.mpr ⟨lwm 610 rfl, List.forall_mem_cons.mpr ⟨lwm 611 rfl, List.forall_mem_cons.mpr ⟨lwm 612 rfl, List.forall_mem_cons.mpr ⟨lwm 613 rfl, List.forall_mem_cons.mpr ⟨lwm 584 rfl, List.forall_mem_cons.mpr ⟨lwm 614 rfl, List.forall_mem_cons.mpr ⟨lwm 615 rfl, List.forall_mem_cons.mpr ⟨lwm 616 rfl, List.forall_mem_cons.mpr ⟨lwm 618 rfl, List.forall_mem_cons.mpr ⟨lwm 619 rfl, List.forall_mem_cons.mpr ⟨lwm 620 rfl, List.forall_mem_cons.mpr ⟨lwm 621 rfl, List.forall_mem_cons.mpr ⟨lwm 865 rfl, fun _ h => absurd h List.not_mem_nil⟩⟩⟩⟩⟩⟩⟩⟩⟩⟩⟩⟩⟩⟩⟩⟩⟩⟩⟩⟩⟩⟩⟩⟩
set_option maxRecDepth 20000 in
theorem wsL_law0_r22_in : ∀ w ∈ wsL_law0_r22, w ∈ lw_tbl := List.forall_mem_cons.mpr ⟨lwm 866 rfl, List.forall_mem_cons.mpr ⟨lwm 867 rfl, List.forall_mem_cons.mpr ⟨lwm 868 rfl, List.forall_mem_cons.mpr ⟨lwm 622 rfl, List.forall_mem_cons.mpr ⟨lwm 623 rfl, List.forall_mem_cons.mpr ⟨lwm 624 rfl, List.forall_mem_cons.mpr ⟨lwm 625 rfl, List.forall_mem_cons.mpr ⟨lwm 626 rfl, List.forall_mem_cons.mpr ⟨lwm 627 rfl, List.forall_mem_cons.mpr ⟨lwm 628 rfl, List.forall_mem_cons.mpr ⟨lwm 585 rfl, List.forall_mem_cons.mpr ⟨lwm 869 rfl, List.forall_mem_cons.mpr ⟨lwm 870 rfl, List.forall_mem_cons.mpr ⟨lwm 871 rfl, List.forall_mem_cons.mpr ⟨lwm 872 rfl, List.forall_mem_cons.mpr ⟨lwm 630 rfl, List.forall_mem_cons.mpr ⟨lwm 631 rfl, List.forall_mem_cons.mpr ⟨lwm 632 rfl, List.forall_mem_cons.mpr ⟨lwm 633 rfl, List.forall_mem_cons.mpr ⟨lwm 634 rfl, List.forall_mem_cons.mpr ⟨lwm 635 rfl, List.forall_mem_cons.mpr ⟨lwm 636 rfl, List.forall_mem_cons.mpr ⟨lwm 185 rfl, List.forall_mem_cons.mpr ⟨lwm 186 rfl, fun _ h => absurd h List.not_mem_nil⟩⟩⟩⟩⟩⟩⟩⟩⟩⟩⟩⟩⟩⟩⟩⟩⟩⟩⟩⟩⟩⟩⟩⟩
set_option maxRecDepth 20000 in
theorem wsL_law0_r23_in : ∀ w ∈ wsL_law0_r23, w ∈ lw_tbl := List.forall_mem_cons.mpr ⟨lwm 187 rfl, List.forall_mem_cons.mpr ⟨lwm 188 rfl, List.forall_mem_cons.mpr ⟨lwm 583 rfl, List.forall_mem_cons.mpr ⟨lwm 190 rfl, List.forall_mem_cons.mpr ⟨lwm 191 rfl, List.forall_mem_cons.mpr ⟨lwm 192 rfl, List.forall_mem_cons.mpr ⟨lwm 873 rfl, List.forall_mem_cons.mpr ⟨lwm 874 rfl, List.forall_mem_cons.mpr ⟨lwm 875 rfl, List.forall_mem_cons.mpr ⟨lwm 876 rfl, List.forall_mem_cons.mpr ⟨lwm 877 rfl, List.forall_mem_cons.mpr ⟨lwm 879 rfl, List.forall_mem_cons.mpr ⟨lwm 24 rfl, List.forall_mem_cons.mpr ⟨lwm 880 rfl, List.forall_mem_cons.mpr ⟨lwm 881 rfl, List.forall_mem_cons.mpr ⟨lwm 882 rfl, List.forall_mem_cons.mpr ⟨lwm 637 rfl, List.forall_mem_cons.mpr ⟨lwm 638 rfl, List.forall_mem_cons.mpr ⟨lwm 639 rfl, List.forall_mem_cons.mpr ⟨lwm 640 rfl, List.forall_mem_cons.mpr ⟨lwm 641 rfl, List.forall_mem_cons.mpr ⟨lwm 642 rfl, List.forall_mem_cons.mpr ⟨lwm 643 rfl, List.forall_mem_cons.mpr ⟨lwm 644 rfl, fun _ h => absurd h List.not_mem_nil⟩⟩⟩⟩⟩⟩⟩⟩⟩⟩⟩⟩⟩⟩⟩⟩⟩⟩⟩⟩⟩⟩⟩⟩
set_option maxRecDepth 20000 in
theorem wsL_law0_r24_in : ∀ w ∈ wsL_law0_r24, w ∈ lw_tbl := List.forall_mem_cons.mpr ⟨lwm 645 rfl, List.forall_mem_cons.mpr ⟨lwm 646 rfl, List.forall_mem_cons.mpr ⟨lwm 647 rfl, List.forall_mem_cons.mpr ⟨lwm 181 rfl, List.forall_mem_cons.mpr ⟨lwm 183 rfl, List.forall_mem_cons.mpr ⟨lwm 0 rfl, List.forall_mem_cons.mpr ⟨lwm 184 rfl, List.forall_mem_cons.mpr ⟨lwm 581 rfl, List.forall_mem_cons.mpr ⟨lwm 193 rfl, List.forall_mem_cons.mpr ⟨lwm 194 rfl, List.forall_mem_cons.mpr ⟨lwm 195 rfl, List.forall_mem_cons.mpr ⟨lwm 883 rfl, List.forall_mem_cons.mpr ⟨lwm 884 rfl, List.forall_mem_cons.mpr ⟨lwm 885 rfl, List.forall_mem_cons.mpr ⟨lwm 886 rfl, List.forall_mem_cons.mpr ⟨lwm 887 rfl, List.forall_mem_cons.mpr ⟨lwm 889 rfl, List.forall_mem_cons.mpr ⟨lwm 25 rfl, List.forall_mem_cons.mpr ⟨lwm 890 rfl, List.forall_mem_cons.mpr ⟨lwm 162 rfl, List.forall_mem_cons.mpr ⟨lwm 163 rfl, List.forall_mem_cons.mpr ⟨lwm 164 rfl, List.forall_mem_cons.mpr ⟨lwm 165 rfl, List.forall_mem_cons.mpr ⟨lwm 891 rfl, fun _ h => absurd h List.not_mem_nil⟩⟩⟩⟩⟩⟩⟩⟩⟩⟩⟩⟩⟩⟩⟩⟩⟩⟩⟩⟩⟩⟩⟩⟩
set_option maxRecDepth 20000 in
theorem wsL_law0_r25_in : ∀ w ∈ wsL_law0_r25, w ∈ lw_tbl := List.forall_mem_cons.mpr ⟨lwm 892 rfl, List.forall_mem_cons.mpr ⟨lwm 893 rfl, List.forall_mem_cons.mpr ⟨lwm 894 rfl, List.forall_mem_cons.mpr ⟨lwm 648 rfl, List.forall_mem_cons.mpr ⟨lwm 649 rfl, List.forall_mem_cons.mpr ⟨lwm 650 rfl, List.forall_mem_cons.mpr ⟨lwm 651 rfl, List.forall_mem_cons.mpr ⟨lwm 652 rfl, List.forall_mem_cons.mpr ⟨lwm 653 rfl, List.forall_mem_cons.mpr ⟨lwm 654 rfl, List.forall_mem_cons.mpr ⟨lwm 655 rfl, List.forall_mem_cons.mpr ⟨lwm 895 rfl, List.forall_mem_cons.mpr ⟨lwm 896 rfl, List.forall_mem_cons.mpr ⟨lwm 897 rfl, List.forall_mem_cons.mpr ⟨lwm 898 rfl, List.forall_mem_cons.mpr ⟨lwm 899 rfl, List.forall_mem_cons.mpr ⟨lwm 901 rfl, List.forall_mem_cons.mpr ⟨lwm 26 rfl, List.forall_mem_cons.mpr ⟨lwm 902 rfl, List.forall_mem_cons.mpr ⟨lwm 656 rfl, List.forall_mem_cons.mpr ⟨lwm 657 rfl, List.forall_mem_cons.mpr ⟨lwm 658 rfl, List.forall_mem_cons.mpr ⟨lwm 659 rfl, List.forall_mem_cons.mpr ⟨lwm 660 rfl, fun _ h => absurd h List.not_mem_nil⟩⟩⟩⟩⟩⟩⟩⟩⟩⟩⟩⟩⟩⟩⟩⟩⟩⟩⟩⟩⟩⟩⟩⟩
set_option maxRecDepth 20000 in
theorem wsL_law0_r26_in : ∀ w ∈ wsL_law0_r26, w ∈ lw_tbl := List.forall_mem_cons.mpr ⟨lwm 661 rfl, List.forall_mem_cons.mpr ⟨lwm 662 rfl, List.forall_mem_cons.mpr ⟨lwm 586 rfl, List.forall_mem_cons.mpr ⟨lwm 903 rfl, List.forall_mem_cons.mpr ⟨lwm 904 rfl, List.forall_mem_cons.mpr ⟨lwm 905 rfl, List.forall_mem_cons.mpr ⟨lwm 906 rfl, List.forall_mem_cons.mpr ⟨lwm 663 rfl, List.forall_mem_cons.mpr ⟨lwm 664 rfl, List.forall_mem_cons.mpr ⟨lwm 665 rfl, List.forall_mem_cons.mpr ⟨lwm 666 rfl, List.forall_mem_cons.mpr ⟨lwm 667 rfl, List.forall_mem_cons.mpr ⟨lwm 668 rfl, List.forall_mem_cons.mpr ⟨lwm 669 rfl, List.forall_mem_cons.mpr ⟨lwm 907 rfl, List.forall_mem_cons.mpr ⟨lwm 908 rfl, List.forall_mem_cons.mpr ⟨lwm 909 rfl, List.forall_mem_cons.mpr ⟨lwm 910 rfl, List.forall_mem_cons.mpr ⟨lwm 200 rfl, List.forall_mem_cons.mpr ⟨lwm 201 rfl, List.forall_mem_cons.mpr ⟨lwm 202 rfl, List.forall_mem_cons.mpr ⟨lwm 203 rfl, List.forall_mem_cons.mpr ⟨lwm 911 rfl, List.forall_mem_cons.mpr ⟨lwm 912 rfl, fun _ h => absurd h List.not_mem_nil⟩⟩⟩⟩⟩⟩⟩⟩⟩⟩⟩⟩⟩⟩⟩⟩⟩⟩⟩⟩⟩⟩⟩⟩
set_option maxRecDepth 20000 in
theorem wsL_law0_r27_in : ∀ w ∈ wsL_law0_r27, w ∈ lw_tbl := List.forall_mem_cons.mpr ⟨lwm 913 rfl, List.forall_mem_cons.mpr ⟨lwm 914 rfl, List.forall_mem_cons.mpr ⟨lwm 915 rfl, List.forall_mem_cons.mpr ⟨lwm 917 rfl, List.forall_mem_cons.mpr ⟨lwm 27 rfl, List.forall_mem_cons.mpr ⟨lwm 918 rfl, List.forall_mem_cons.mpr ⟨lwm 204 rfl, List.forall_mem_cons.mpr ⟨lwm 205 rfl, List.forall_mem_cons.mpr ⟨lwm 206 rfl, List.forall_mem_cons.mpr ⟨lwm 207 rfl, List.forall_mem_cons.mpr ⟨lwm 208 rfl, List.forall_mem_cons.mpr ⟨lwm 209 rfl, List.forall_mem_cons.mpr ⟨lwm 919 rfl, List.forall_mem_cons.mpr ⟨lwm 920 rfl, List.forall_mem_cons.mpr ⟨lwm 921 rfl, List.forall_mem_cons.mpr ⟨lwm 922 rfl, List.forall_mem_cons.mpr ⟨lwm 923 rfl, List.forall_mem_cons.mpr ⟨lwm 925 rfl, List.forall_mem_cons.mpr ⟨lwm 28 rfl, List.forall_mem_cons.mpr ⟨lwm 926 rfl, List.forall_mem_cons.mpr ⟨lwm 670 rfl, List.forall_mem_cons.mpr ⟨lwm 671 rfl, List.forall_mem_cons.mpr ⟨lwm 672 rfl, List.forall_mem_cons.mpr ⟨lwm 673 rfl, fun _ h => absurd h List.not_mem_nil⟩⟩⟩⟩⟩⟩⟩⟩⟩⟩⟩⟩⟩⟩⟩⟩⟩⟩⟩⟩⟩⟩⟩⟩
set_option maxRecDepth 20000 in
theorem wsL_law0_r28_in : ∀ w ∈ wsL_law0_r28, w ∈ lw_tbl := List.forall_mem_cons.mpr ⟨lwm 674 rfl, List.forall_mem_cons.mpr ⟨lwm 675 rfl, List.forall_mem_cons.mpr ⟨lwm 676 rfl, List.forall_mem_cons.mpr ⟨lwm 677 rfl, List.forall_mem_cons.mpr ⟨lwm 927 rfl, List.forall_mem_cons.mpr ⟨lwm 928 rfl, List.forall_mem_cons.mpr ⟨lwm 929 rfl, List.forall_mem_cons.mpr ⟨lwm 930 rfl, List.forall_mem_cons.mpr ⟨lwm 709 rfl, List.forall_mem_cons.mpr ⟨lwm 210 rfl, List.forall_mem_cons.mpr ⟨lwm 211 rfl, List.forall_mem_cons.mpr ⟨lwm 212 rfl, List.forall_mem_cons.mpr ⟨lwm 213 rfl, List.forall_mem_cons.mpr ⟨lwm 931 rfl, List.forall_mem_cons.mpr ⟨lwm 932 rfl, List.forall_mem_cons.mpr ⟨lwm 933 rfl, List.forall_mem_cons.mpr ⟨lwm 934 rfl, fun _ h => absurd h List.not_mem_nil⟩⟩⟩⟩⟩⟩⟩⟩⟩⟩⟩⟩⟩⟩⟩⟩⟩
theorem wsX30_tb : ∀ w ∈ wsX30, w ∈ lw_tbl := by decide +kernel
theorem wsX40_tb : ∀ w ∈ wsX40, w ∈ lw_tbl := by decide +kernel
theorem wsX00_tb : ∀ w ∈ wsX00, w ∈ lw_tbl := by decide +kernel
theorem wsJx4a65c0_tb : ∀ w ∈ wsJx4a65c0, w ∈ lw_tbl := by decide +kernel
theorem wsX20_tb : ∀ w ∈ wsX20, w ∈ lw_tbl := by decide +kernel
theorem wsX10_tb : ∀ w ∈ wsX10, w ∈ lw_tbl := by decide +kernel
theorem wsL_law_in0 : ∀ w ∈ wsL_law0, w ∈ lw_tbl := List.forall_mem_append.mpr ⟨List.forall_mem_append.mpr ⟨List.forall_mem_append.mpr ⟨List.forall_mem_append.mpr ⟨List.forall_mem_append.mpr ⟨List.forall_mem_append.mpr ⟨List.forall_mem_append.mpr ⟨List.forall_mem_append.mpr ⟨wsL_law0_r1_in, List.forall_mem_append.mpr ⟨wsL_law0_r2_in, List.forall_mem_append.mpr ⟨wsL_law0_r3_in, List.forall_mem_append.mpr ⟨wsL_law0_r4_in, List.forall_mem_append.mpr ⟨wsL_law0_r5_in, List.forall_mem_append.mpr ⟨wsL_law0_r6_in, List.forall_mem_append.mpr ⟨wsL_law0_r7_in, List.forall_mem_append.mpr ⟨wsL_law0_r8_in, List.forall_mem_append.mpr ⟨wsL_law0_r9_in, List.forall_mem_append.mpr ⟨wsL_law0_r10_in, List.forall_mem_append.mpr ⟨wsL_law0_r11_in, List.forall_mem_append.mpr ⟨wsL_law0_r12_in, List.forall_mem_append.mpr ⟨wsL_law0_r13_in, List.forall_mem_append.mpr ⟨wsL_law0_r14_in, List.forall_mem_append.mpr ⟨wsL_law0_r15_in, List.forall_mem_append.mpr ⟨wsL_law0_r16_in, List.forall_mem_append.mpr ⟨wsL_law0_r17_in, List.forall_mem_append.mpr ⟨wsL_law0_r18_in, List.forall_mem_append.mpr ⟨wsL_law0_r19_in, List.forall_mem_append.mpr ⟨wsL_law0_r20_in, List.forall_mem_append.mpr ⟨wsL_law0_r21_in, List.forall_mem_append.mpr ⟨wsL_law0_r22_in, List.forall_mem_append.mpr ⟨wsL_law0_r23_in, List.forall_mem_append.mpr ⟨wsL_law0_r24_in, List.forall_mem_append.mpr ⟨wsL_law0_r25_in, List.forall_mem_append.mpr ⟨wsL_law0_r26_in, List.forall_mem_append.mpr ⟨wsL_law0_r27_in, wsL_law0_r28_in⟩⟩⟩⟩⟩⟩⟩⟩⟩⟩⟩⟩⟩⟩⟩⟩⟩⟩⟩⟩⟩⟩⟩⟩⟩⟩⟩, wsX30_tb⟩, wsX40_tb⟩, wsX00_tb⟩, wsJx4a65c0_tb⟩, wsX20_tb⟩, wsX10_tb⟩, fun _ h => absurd h List.not_mem_nil⟩
end
section
theorem wsL_law_x0 : ∀ w ∈ (vx_atS RX3 194 "java/lang/IllegalArgumentException" ["java/lang/RuntimeException", "java/lang/Exception"]).filter goodWord, w ∈ lw_tbl := by decide +kernel
theorem wsL_law_x1 : ∀ w ∈ (vx_atS RX3 60 "java/lang/IllegalStateException" ["java/lang/RuntimeException", "java/lang/Exception"]).filter goodWord, w ∈ lw_tbl := by decide +kernel
theorem wsL_law_x2 : ∀ w ∈ (vx_atS RX3 71 "java/lang/IndexOutOfBoundsException" ["java/lang/RuntimeException", "java/lang/Exception"]).filter goodWord, w ∈ lw_tbl := by decide +kernel
theorem wsL_law_in : ∀ w ∈ wsL_law, w ∈ lw_tbl := fun w h => (List.mem_append.mp h).elim (fun h => (List.mem_append.mp h).elim (fun h => (List.mem_append.mp h).elim (fun h => wsL_law_in0 w h) (fun h => wsL_law_x0 w h)) (fun h => wsL_law_x1 w h)) (fun h => wsL_law_x2 w h)
theorem inlX0 : ∀ w ∈ wsX00, w ∈ wsL_law := fun _ h => List.mem_append_left _ (List.mem_append_left _ (List.mem_append_left _ (List.mem_append_left _ (List.mem_append_left _ (List.mem_append_left _ (List.mem_append_left _ (List.mem_append_right _ h)))))))
theorem inX0 : ∀ w ∈ wsX00, w ∈ lw_tbl := fun w h => wsL_law_in w (inlX0 w h)
theorem inlX1 : ∀ w ∈ wsX10, w ∈ wsL_law := fun _ h => List.mem_append_left _ (List.mem_append_left _ (List.mem_append_left _ (List.mem_append_left _ (List.mem_append_right _ h))))
theorem inX1 : ∀ w ∈ wsX10, w ∈ lw_tbl := fun w h => wsL_law_in w (inlX1 w h)
theorem inlX2 : ∀ w ∈ wsX20, w ∈ wsL_law := fun _ h => List.mem_append_left _ (List.mem_append_left _ (List.mem_append_left _ (List.mem_append_left _ (List.mem_append_left _ (List.mem_append_right _ h)))))
theorem inX2 : ∀ w ∈ wsX20, w ∈ lw_tbl := fun w h => wsL_law_in w (inlX2 w h)
theorem inlX3 : ∀ w ∈ wsX30, w ∈ wsL_law := fun _ h => List.mem_append_left _ (List.mem_append_left _ (List.mem_append_left _ (List.mem_append_left _ (List.mem_append_left _ (List.mem_append_left _ (List.mem_append_left _ (List.mem_append_left _ (List.mem_append_left _ (List.mem_append_right _ h)))))))))
theorem inX3 : ∀ w ∈ wsX30, w ∈ lw_tbl := fun w h => wsL_law_in w (inlX3 w h)
theorem inlX4 : ∀ w ∈ wsX40, w ∈ wsL_law := fun _ h => List.mem_append_left _ (List.mem_append_left _ (List.mem_append_left _ (List.mem_append_left _ (List.mem_append_left _ (List.mem_append_left _ (List.mem_append_left _ (List.mem_append_left _ (List.mem_append_right _ h))))))))
theorem inX4 : ∀ w ∈ wsX40, w ∈ lw_tbl := fun w h => wsL_law_in w (inlX4 w h)
theorem inJx145de : ∀ w ∈ wsJx145de0, w ∈ lw_tbl := by decide +kernel
theorem inJx8e188 : ∀ w ∈ wsJx8e1880, w ∈ lw_tbl := by decide +kernel
theorem inJxab1ab : ∀ w ∈ wsJxab1ab0, w ∈ lw_tbl := by decide +kernel
theorem inJ9 : ∀ w ∈ wsJ90, w ∈ lw_tbl := by decide +kernel
theorem inJ0 : ∀ w ∈ wsJ00, w ∈ lw_tbl := by decide +kernel
theorem inJ10 : ∀ w ∈ wsJ100, w ∈ lw_tbl := by decide +kernel
theorem inJxa1e45 : ∀ w ∈ wsJxa1e450, w ∈ lw_tbl := by decide +kernel
theorem inJxc12de : ∀ w ∈ wsJxc12de0, w ∈ lw_tbl := by decide +kernel
theorem inlJx4a65c : ∀ w ∈ wsJx4a65c0, w ∈ wsL_law := fun _ h => List.mem_append_left _ (List.mem_append_left _ (List.mem_append_left _ (List.mem_append_left _ (List.mem_append_left _ (List.mem_append_left _ (List.mem_append_right _ h))))))
theorem inJx4a65c : ∀ w ∈ wsJx4a65c0, w ∈ lw_tbl := fun w h => wsL_law_in w (inlJx4a65c w h)
theorem inJ7 : ∀ w ∈ wsJ70, w ∈ lw_tbl := by decide +kernel
theorem inJx5ef63 : ∀ w ∈ wsJx5ef630, w ∈ lw_tbl := by decide +kernel
theorem inJxbd725 : ∀ w ∈ wsJxbd7250, w ∈ lw_tbl := by decide +kernel
theorem inJ15 : ∀ w ∈ wsJ150, w ∈ lw_tbl := by decide +kernel
theorem inJxf0a74 : ∀ w ∈ wsJxf0a740, w ∈ lw_tbl := by decide +kernel
theorem inJxa66e6 : ∀ w ∈ wsJxa66e60, w ∈ lw_tbl := by decide +kernel
theorem inJ8 : ∀ w ∈ wsJ80, w ∈ lw_tbl := by decide +kernel
theorem inJ3 : ∀ w ∈ wsJ30, w ∈ lw_tbl := by decide +kernel
theorem dX0_init_0 : decode cX0_init 0 = .ok (.aload_n 0, 1) := by decide +kernel
theorem dX0_init_1 : decode cX0_init 1 = .ok (.invokespecial 3, 3) := by decide +kernel
theorem dX0_init_4 : decode cX0_init 4 = .ok (.aload_n 0, 1) := by decide +kernel
theorem dX0_init_5 : decode cX0_init 5 = .ok (.bipush 41, 2) := by decide +kernel
theorem dX0_init_7 : decode cX0_init 7 = .ok (.newarray .long, 2) := by decide +kernel
theorem dX0_init_9 : decode cX0_init 9 = .ok (.putfield 9, 3) := by decide +kernel
theorem dX0_init_12 : decode cX0_init 12 = .ok (.aload_n 0, 1) := by decide +kernel
theorem dX0_init_13 : decode cX0_init 13 = .ok (.bipush 41, 2) := by decide +kernel
theorem dX0_init_15 : decode cX0_init 15 = .ok (.newarray .long, 2) := by decide +kernel
theorem dX0_init_17 : decode cX0_init 17 = .ok (.putfield 15, 3) := by decide +kernel
theorem dX0_init_20 : decode cX0_init 20 = .ok (.aload_n 0, 1) := by decide +kernel
theorem dX0_init_21 : decode cX0_init 21 = .ok (.bipush 10, 2) := by decide +kernel
theorem dX0_init_23 : decode cX0_init 23 = .ok (.newarray .int, 2) := by decide +kernel
theorem dX0_init_25 : decode cX0_init 25 = .ok (.putfield 18, 3) := by decide +kernel
theorem dX0_init_28 : decode cX0_init 28 = .ok (.return_, 1) := by decide +kernel
set_option maxRecDepth 20000 in
theorem ggX0_startAt_J7_fill_d0a16 : GoodIn wsX0_startAt wsJ7_fill_d0a16 := goodIn_r _ [16] (by decide +kernel) (by decide +kernel)
set_option maxRecDepth 20000 in
theorem gX0_startAt_J7_fill_d0a16 : GoodIn wsX0_startAt (va_wsS RX0 22 yJ7_fill_d0a16 wsJ7_fill_d0a16) := goodIn_app (goodIn_of _ (by decide +kernel)) ggX0_startAt_J7_fill_d0a16
set_option maxRecDepth 20000 in
theorem ggX0_startAt_J7_fill_53178 : GoodIn wsX0_startAt wsJ7_fill_53178 := goodIn_r _ [19] (by decide +kernel) (by decide +kernel)
set_option maxRecDepth 20000 in
theorem gX0_startAt_J7_fill_53178 : GoodIn wsX0_startAt (va_wsS RX0 28 yJ7_fill_53178 wsJ7_fill_53178) := goodIn_app (goodIn_of _ (by decide +kernel)) ggX0_startAt_J7_fill_53178
set_option maxRecDepth 20000 in
theorem ggX0_startAt_X0_mark : GoodIn wsX0_startAt wsX0_mark := goodIn_r _ [23, 24, 25, 22, 26] (by decide +kernel) (by decide +kernel)
set_option maxRecDepth 20000 in
theorem gX0_startAt_X0_mark : GoodIn wsX0_startAt (va_wsS RX0 53 yX0_mark wsX0_mark) := goodIn_app (goodIn_of _ (by decide +kernel)) ggX0_startAt_X0_mark
theorem dX0_startAt_0 : decode cX0_startAt 0 = .ok (.aload_n 0, 1) := by decide +kernel
theorem dX0_startAt_1 : decode cX0_startAt 1 = .ok (.getfield 9, 3) := by decide +kernel
theorem dX0_startAt_4 : decode cX0_startAt 4 = .ok (.lconst 0, 1) := by decide +kernel
theorem dX0_startAt_5 : decode cX0_startAt 5 = .ok (.invokestatic 22, 3) := by decide +kernel
theorem dX0_startAt_8 : decode cX0_startAt 8 = .ok (.aload_n 0, 1) := by decide +kernel
theorem dX0_startAt_9 : decode cX0_startAt 9 = .ok (.getfield 15, 3) := by decide +kernel
theorem dX0_startAt_12 : decode cX0_startAt 12 = .ok (.lconst 0, 1) := by decide +kernel
theorem dX0_startAt_13 : decode cX0_startAt 13 = .ok (.invokestatic 22, 3) := by decide +kernel
theorem dX0_startAt_16 : decode cX0_startAt 16 = .ok (.aload_n 0, 1) := by decide +kernel
theorem dX0_startAt_17 : decode cX0_startAt 17 = .ok (.getfield 18, 3) := by decide +kernel
theorem dX0_startAt_20 : decode cX0_startAt 20 = .ok (.iconst 0, 1) := by decide +kernel
theorem dX0_startAt_21 : decode cX0_startAt 21 = .ok (.invokestatic 28, 3) := by decide +kernel
theorem dX0_startAt_24 : decode cX0_startAt 24 = .ok (.aload_n 0, 1) := by decide +kernel
theorem dX0_startAt_25 : decode cX0_startAt 25 = .ok (.iconst 0, 1) := by decide +kernel
theorem dX0_startAt_26 : decode cX0_startAt 26 = .ok (.putfield 31, 3) := by decide +kernel
theorem dX0_startAt_29 : decode cX0_startAt 29 = .ok (.aload_n 0, 1) := by decide +kernel
theorem dX0_startAt_30 : decode cX0_startAt 30 = .ok (.iconst 0, 1) := by decide +kernel
theorem dX0_startAt_31 : decode cX0_startAt 31 = .ok (.putfield 35, 3) := by decide +kernel
theorem dX0_startAt_34 : decode cX0_startAt 34 = .ok (.aload_n 0, 1) := by decide +kernel
theorem dX0_startAt_35 : decode cX0_startAt 35 = .ok (.iconst 0, 1) := by decide +kernel
theorem dX0_startAt_36 : decode cX0_startAt 36 = .ok (.putfield 38, 3) := by decide +kernel
theorem dX0_startAt_39 : decode cX0_startAt 39 = .ok (.aload_n 0, 1) := by decide +kernel
theorem dX0_startAt_40 : decode cX0_startAt 40 = .ok (.iload_n 1, 1) := by decide +kernel
theorem dX0_startAt_41 : decode cX0_startAt 41 = .ok (.putfield 41, 3) := by decide +kernel
theorem dX0_startAt_44 : decode cX0_startAt 44 = .ok (.aload_n 0, 1) := by decide +kernel
theorem dX0_startAt_45 : decode cX0_startAt 45 = .ok (.iload_n 2, 1) := by decide +kernel
theorem dX0_startAt_46 : decode cX0_startAt 46 = .ok (.putfield 44, 3) := by decide +kernel
theorem dX0_startAt_49 : decode cX0_startAt 49 = .ok (.aload_n 0, 1) := by decide +kernel
theorem dX0_startAt_50 : decode cX0_startAt 50 = .ok (.iload_n 1, 1) := by decide +kernel
theorem dX0_startAt_51 : decode cX0_startAt 51 = .ok (.putfield 47, 3) := by decide +kernel
theorem dX0_startAt_54 : decode cX0_startAt 54 = .ok (.aload_n 0, 1) := by decide +kernel
theorem dX0_startAt_55 : decode cX0_startAt 55 = .ok (.iload_n 2, 1) := by decide +kernel
theorem dX0_startAt_56 : decode cX0_startAt 56 = .ok (.putfield 50, 3) := by decide +kernel
theorem dX0_startAt_59 : decode cX0_startAt 59 = .ok (.aload_n 0, 1) := by decide +kernel
theorem dX0_startAt_60 : decode cX0_startAt 60 = .ok (.getfield 9, 3) := by decide +kernel
theorem dX0_startAt_63 : decode cX0_startAt 63 = .ok (.aload_n 0, 1) := by decide +kernel
theorem dX0_startAt_64 : decode cX0_startAt 64 = .ok (.getfield 47, 3) := by decide +kernel
theorem dX0_startAt_67 : decode cX0_startAt 67 = .ok (.aload_n 0, 1) := by decide +kernel
theorem dX0_startAt_68 : decode cX0_startAt 68 = .ok (.getfield 50, 3) := by decide +kernel
theorem dX0_startAt_71 : decode cX0_startAt 71 = .ok (.invokestatic 53, 3) := by decide +kernel
theorem dX0_startAt_74 : decode cX0_startAt 74 = .ok (.aload_n 0, 1) := by decide +kernel
theorem dX0_startAt_75 : decode cX0_startAt 75 = .ok (.iconst 1, 1) := by decide +kernel
theorem dX0_startAt_76 : decode cX0_startAt 76 = .ok (.putfield 57, 3) := by decide +kernel
theorem dX0_startAt_79 : decode cX0_startAt 79 = .ok (.aload_n 0, 1) := by decide +kernel
theorem dX0_startAt_80 : decode cX0_startAt 80 = .ok (.iconst 0, 1) := by decide +kernel
theorem dX0_startAt_81 : decode cX0_startAt 81 = .ok (.putfield 61, 3) := by decide +kernel
theorem dX0_startAt_84 : decode cX0_startAt 84 = .ok (.return_, 1) := by decide +kernel
theorem dX0_takeAway_0 : decode cX0_takeAway 0 = .ok (.aload_n 0, 1) := by decide +kernel
theorem dX0_takeAway_1 : decode cX0_takeAway 1 = .ok (.iconst 0, 1) := by decide +kernel
theorem dX0_takeAway_2 : decode cX0_takeAway 2 = .ok (.putfield 57, 3) := by decide +kernel
theorem dX0_takeAway_5 : decode cX0_takeAway 5 = .ok (.aload_n 0, 1) := by decide +kernel
theorem dX0_takeAway_6 : decode cX0_takeAway 6 = .ok (.iconst 0, 1) := by decide +kernel
theorem dX0_takeAway_7 : decode cX0_takeAway 7 = .ok (.putfield 61, 3) := by decide +kernel
theorem dX0_takeAway_10 : decode cX0_takeAway 10 = .ok (.return_, 1) := by decide +kernel
set_option maxRecDepth 20000 in
theorem ggX0_admits_X0_eastward : GoodIn wsX0_admits wsX0_eastward := goodIn_r _ [6] (by decide +kernel) (by decide +kernel)
set_option maxRecDepth 20000 in
theorem gX0_admits_X0_eastward : GoodIn wsX0_admits (va_wsS RX0 64 yX0_eastward wsX0_eastward) := goodIn_app (goodIn_of _ (by decide +kernel)) ggX0_admits_X0_eastward
set_option maxRecDepth 20000 in
theorem ggX0_admits_X0_northward : GoodIn wsX0_admits wsX0_northward := goodIn_r _ [9] (by decide +kernel) (by decide +kernel)
set_option maxRecDepth 20000 in
theorem gX0_admits_X0_northward : GoodIn wsX0_admits (va_wsS RX0 68 yX0_northward wsX0_northward) := goodIn_app (goodIn_of _ (by decide +kernel)) ggX0_admits_X0_northward
set_option maxRecDepth 20000 in
theorem ggX0_admits_X0_isFree : GoodIn wsX0_admits wsX0_isFree := goodIn_r _ [13, 14, 15, 16, 5, 17, 18, 19, 20, 28, 29, 30, 31, 32, 33, 34, 35, 36, 37, 38, 39] (by decide +kernel) (by decide +kernel)
set_option maxRecDepth 20000 in
theorem gX0_admits_X0_isFree : GoodIn wsX0_admits (wsV RX0 71 RX0 yX0_isFree wsX0_isFree) := goodIn_app (goodIn_of _ (by decide +kernel)) ggX0_admits_X0_isFree
set_option maxRecDepth 20000 in
theorem ggX0_admits_X0_closesAt : GoodIn wsX0_admits wsX0_closesAt := goodIn_r _ [24, 25, 26, 27, 28, 29, 30, 31, 32, 33, 34, 35, 36, 37, 38, 39] (by decide +kernel) (by decide +kernel)
set_option maxRecDepth 20000 in
theorem gX0_admits_X0_closesAt : GoodIn wsX0_admits (wsV RX0 75 RX0 yX0_closesAt wsX0_closesAt) := goodIn_app (goodIn_of _ (by decide +kernel)) ggX0_admits_X0_closesAt
theorem dX0_admits_0 : decode cX0_admits 0 = .ok (.iload_n 1, 1) := by decide +kernel
theorem dX0_admits_1 : decode cX0_admits 1 = .ok (.invokestatic 64, 3) := by decide +kernel
theorem dX0_admits_4 : decode cX0_admits 4 = .ok (.istore_n 3, 1) := by decide +kernel
theorem dX0_admits_5 : decode cX0_admits 5 = .ok (.iload_n 1, 1) := by decide +kernel
theorem dX0_admits_6 : decode cX0_admits 6 = .ok (.invokestatic 68, 3) := by decide +kernel
theorem dX0_admits_9 : decode cX0_admits 9 = .ok (.istore 4, 2) := by decide +kernel
theorem dX0_admits_11 : decode cX0_admits 11 = .ok (.iconst 1, 1) := by decide +kernel
theorem dX0_admits_12 : decode cX0_admits 12 = .ok (.istore 5, 2) := by decide +kernel
theorem dX0_admits_14 : decode cX0_admits 14 = .ok (.iload 5, 2) := by decide +kernel
theorem dX0_admits_16 : decode cX0_admits 16 = .ok (.iload_n 2, 1) := by decide +kernel
theorem dX0_admits_17 : decode cX0_admits 17 = .ok (.if_icmp .ge 37, 3) := by decide +kernel
theorem dX0_admits_20 : decode cX0_admits 20 = .ok (.aload_n 0, 1) := by decide +kernel
theorem dX0_admits_21 : decode cX0_admits 21 = .ok (.aload_n 0, 1) := by decide +kernel
theorem dX0_admits_22 : decode cX0_admits 22 = .ok (.getfield 47, 3) := by decide +kernel
theorem dX0_admits_25 : decode cX0_admits 25 = .ok (.iload 5, 2) := by decide +kernel
theorem dX0_admits_27 : decode cX0_admits 27 = .ok (.iload_n 3, 1) := by decide +kernel
theorem dX0_admits_28 : decode cX0_admits 28 = .ok (.imul, 1) := by decide +kernel
theorem dX0_admits_29 : decode cX0_admits 29 = .ok (.iadd, 1) := by decide +kernel
theorem dX0_admits_30 : decode cX0_admits 30 = .ok (.aload_n 0, 1) := by decide +kernel
theorem dX0_admits_31 : decode cX0_admits 31 = .ok (.getfield 50, 3) := by decide +kernel
theorem dX0_admits_34 : decode cX0_admits 34 = .ok (.iload 5, 2) := by decide +kernel
theorem dX0_admits_36 : decode cX0_admits 36 = .ok (.iload 4, 2) := by decide +kernel
theorem dX0_admits_38 : decode cX0_admits 38 = .ok (.imul, 1) := by decide +kernel
theorem dX0_admits_39 : decode cX0_admits 39 = .ok (.iadd, 1) := by decide +kernel
theorem dX0_admits_40 : decode cX0_admits 40 = .ok (.invokevirtual 71, 3) := by decide +kernel
theorem dX0_admits_43 : decode cX0_admits 43 = .ok (.ifCond .ne 5, 3) := by decide +kernel
theorem dX0_admits_46 : decode cX0_admits 46 = .ok (.iconst 0, 1) := by decide +kernel
theorem dX0_admits_47 : decode cX0_admits 47 = .ok (.ireturn, 1) := by decide +kernel
theorem dX0_admits_48 : decode cX0_admits 48 = .ok (.iinc 5 1, 3) := by decide +kernel
theorem dX0_admits_51 : decode cX0_admits 51 = .ok (.goto (-37), 3) := by decide +kernel
theorem dX0_admits_54 : decode cX0_admits 54 = .ok (.aload_n 0, 1) := by decide +kernel
theorem dX0_admits_55 : decode cX0_admits 55 = .ok (.getfield 47, 3) := by decide +kernel
theorem dX0_admits_58 : decode cX0_admits 58 = .ok (.iload_n 2, 1) := by decide +kernel
theorem dX0_admits_59 : decode cX0_admits 59 = .ok (.iload_n 3, 1) := by decide +kernel
theorem dX0_admits_60 : decode cX0_admits 60 = .ok (.imul, 1) := by decide +kernel
theorem dX0_admits_61 : decode cX0_admits 61 = .ok (.iadd, 1) := by decide +kernel
theorem dX0_admits_62 : decode cX0_admits 62 = .ok (.istore 5, 2) := by decide +kernel
theorem dX0_admits_64 : decode cX0_admits 64 = .ok (.aload_n 0, 1) := by decide +kernel
theorem dX0_admits_65 : decode cX0_admits 65 = .ok (.getfield 50, 3) := by decide +kernel
theorem dX0_admits_68 : decode cX0_admits 68 = .ok (.iload_n 2, 1) := by decide +kernel
theorem dX0_admits_69 : decode cX0_admits 69 = .ok (.iload 4, 2) := by decide +kernel
theorem dX0_admits_71 : decode cX0_admits 71 = .ok (.imul, 1) := by decide +kernel
theorem dX0_admits_72 : decode cX0_admits 72 = .ok (.iadd, 1) := by decide +kernel
theorem dX0_admits_73 : decode cX0_admits 73 = .ok (.istore 6, 2) := by decide +kernel
theorem dX0_admits_75 : decode cX0_admits 75 = .ok (.aload_n 0, 1) := by decide +kernel
theorem dX0_admits_76 : decode cX0_admits 76 = .ok (.iload 5, 2) := by decide +kernel
theorem dX0_admits_78 : decode cX0_admits 78 = .ok (.iload 6, 2) := by decide +kernel
theorem dX0_admits_80 : decode cX0_admits 80 = .ok (.invokevirtual 71, 3) := by decide +kernel
theorem dX0_admits_83 : decode cX0_admits 83 = .ok (.ifCond .ne 14, 3) := by decide +kernel
theorem dX0_admits_86 : decode cX0_admits 86 = .ok (.aload_n 0, 1) := by decide +kernel
theorem dX0_admits_87 : decode cX0_admits 87 = .ok (.iload 5, 2) := by decide +kernel
theorem dX0_admits_89 : decode cX0_admits 89 = .ok (.iload 6, 2) := by decide +kernel
theorem dX0_admits_91 : decode cX0_admits 91 = .ok (.invokevirtual 75, 3) := by decide +kernel
theorem dX0_admits_94 : decode cX0_admits 94 = .ok (.ifCond .eq 7, 3) := by decide +kernel
theorem dX0_admits_97 : decode cX0_admits 97 = .ok (.iconst 1, 1) := by decide +kernel
theorem dX0_admits_98 : decode cX0_admits 98 = .ok (.goto 4, 3) := by decide +kernel
theorem dX0_admits_101 : decode cX0_admits 101 = .ok (.iconst 0, 1) := by decide +kernel
theorem dX0_admits_102 : decode cX0_admits 102 = .ok (.ireturn, 1) := by decide +kernel
set_option maxRecDepth 20000 in
theorem ggX0_goOn_X0_eastward : GoodIn wsX0_goOn wsX0_eastward := goodIn_r _ [20] (by decide +kernel) (by decide +kernel)
set_option maxRecDepth 20000 in
theorem gX0_goOn_X0_eastward : GoodIn wsX0_goOn (va_wsS RX0 64 yX0_eastward wsX0_eastward) := goodIn_app (goodIn_of _ (by decide +kernel)) ggX0_goOn_X0_eastward
set_option maxRecDepth 20000 in
theorem ggX0_goOn_X0_northward : GoodIn wsX0_goOn wsX0_northward := goodIn_r _ [23] (by decide +kernel) (by decide +kernel)
set_option maxRecDepth 20000 in
theorem gX0_goOn_X0_northward : GoodIn wsX0_goOn (va_wsS RX0 68 yX0_northward wsX0_northward) := goodIn_app (goodIn_of _ (by decide +kernel)) ggX0_goOn_X0_northward
set_option maxRecDepth 20000 in
theorem ggX0_goOn_X0_mark : GoodIn wsX0_goOn wsX0_mark := goodIn_r _ [26, 27, 28, 19, 29] (by decide +kernel) (by decide +kernel)
set_option maxRecDepth 20000 in
theorem gX0_goOn_X0_mark : GoodIn wsX0_goOn (va_wsS RX0 53 yX0_mark wsX0_mark) := goodIn_app (goodIn_of _ (by decide +kernel)) ggX0_goOn_X0_mark
theorem dX0_goOn_0 : decode cX0_goOn 0 = .ok (.iload_n 1, 1) := by decide +kernel
theorem dX0_goOn_1 : decode cX0_goOn 1 = .ok (.invokestatic 64, 3) := by decide +kernel
theorem dX0_goOn_4 : decode cX0_goOn 4 = .ok (.istore_n 3, 1) := by decide +kernel
theorem dX0_goOn_5 : decode cX0_goOn 5 = .ok (.iload_n 1, 1) := by decide +kernel
theorem dX0_goOn_6 : decode cX0_goOn 6 = .ok (.invokestatic 68, 3) := by decide +kernel
theorem dX0_goOn_9 : decode cX0_goOn 9 = .ok (.istore 4, 2) := by decide +kernel
theorem dX0_goOn_11 : decode cX0_goOn 11 = .ok (.iconst 1, 1) := by decide +kernel
theorem dX0_goOn_12 : decode cX0_goOn 12 = .ok (.istore 5, 2) := by decide +kernel
theorem dX0_goOn_14 : decode cX0_goOn 14 = .ok (.iload 5, 2) := by decide +kernel
theorem dX0_goOn_16 : decode cX0_goOn 16 = .ok (.iload_n 2, 1) := by decide +kernel
theorem dX0_goOn_17 : decode cX0_goOn 17 = .ok (.if_icmp .gt 35, 3) := by decide +kernel
theorem dX0_goOn_20 : decode cX0_goOn 20 = .ok (.aload_n 0, 1) := by decide +kernel
theorem dX0_goOn_21 : decode cX0_goOn 21 = .ok (.getfield 9, 3) := by decide +kernel
theorem dX0_goOn_24 : decode cX0_goOn 24 = .ok (.aload_n 0, 1) := by decide +kernel
theorem dX0_goOn_25 : decode cX0_goOn 25 = .ok (.getfield 47, 3) := by decide +kernel
theorem dX0_goOn_28 : decode cX0_goOn 28 = .ok (.iload 5, 2) := by decide +kernel
theorem dX0_goOn_30 : decode cX0_goOn 30 = .ok (.iload_n 3, 1) := by decide +kernel
theorem dX0_goOn_31 : decode cX0_goOn 31 = .ok (.imul, 1) := by decide +kernel
theorem dX0_goOn_32 : decode cX0_goOn 32 = .ok (.iadd, 1) := by decide +kernel
theorem dX0_goOn_33 : decode cX0_goOn 33 = .ok (.aload_n 0, 1) := by decide +kernel
theorem dX0_goOn_34 : decode cX0_goOn 34 = .ok (.getfield 50, 3) := by decide +kernel
theorem dX0_goOn_37 : decode cX0_goOn 37 = .ok (.iload 5, 2) := by decide +kernel
theorem dX0_goOn_39 : decode cX0_goOn 39 = .ok (.iload 4, 2) := by decide +kernel
theorem dX0_goOn_41 : decode cX0_goOn 41 = .ok (.imul, 1) := by decide +kernel
theorem dX0_goOn_42 : decode cX0_goOn 42 = .ok (.iadd, 1) := by decide +kernel
theorem dX0_goOn_43 : decode cX0_goOn 43 = .ok (.invokestatic 53, 3) := by decide +kernel
theorem dX0_goOn_46 : decode cX0_goOn 46 = .ok (.iinc 5 1, 3) := by decide +kernel
theorem dX0_goOn_49 : decode cX0_goOn 49 = .ok (.goto (-35), 3) := by decide +kernel
theorem dX0_goOn_52 : decode cX0_goOn 52 = .ok (.aload_n 0, 1) := by decide +kernel
theorem dX0_goOn_53 : decode cX0_goOn 53 = .ok (.getfield 47, 3) := by decide +kernel
theorem dX0_goOn_56 : decode cX0_goOn 56 = .ok (.iload_n 2, 1) := by decide +kernel
theorem dX0_goOn_57 : decode cX0_goOn 57 = .ok (.iload_n 3, 1) := by decide +kernel
theorem dX0_goOn_58 : decode cX0_goOn 58 = .ok (.imul, 1) := by decide +kernel
theorem dX0_goOn_59 : decode cX0_goOn 59 = .ok (.iadd, 1) := by decide +kernel
theorem dX0_goOn_60 : decode cX0_goOn 60 = .ok (.istore 5, 2) := by decide +kernel
theorem dX0_goOn_62 : decode cX0_goOn 62 = .ok (.aload_n 0, 1) := by decide +kernel
theorem dX0_goOn_63 : decode cX0_goOn 63 = .ok (.getfield 50, 3) := by decide +kernel
theorem dX0_goOn_66 : decode cX0_goOn 66 = .ok (.iload_n 2, 1) := by decide +kernel
theorem dX0_goOn_67 : decode cX0_goOn 67 = .ok (.iload 4, 2) := by decide +kernel
theorem dX0_goOn_69 : decode cX0_goOn 69 = .ok (.imul, 1) := by decide +kernel
theorem dX0_goOn_70 : decode cX0_goOn 70 = .ok (.iadd, 1) := by decide +kernel
theorem dX0_goOn_71 : decode cX0_goOn 71 = .ok (.istore 6, 2) := by decide +kernel
theorem dX0_goOn_73 : decode cX0_goOn 73 = .ok (.aload_n 0, 1) := by decide +kernel
theorem dX0_goOn_74 : decode cX0_goOn 74 = .ok (.getfield 50, 3) := by decide +kernel
theorem dX0_goOn_77 : decode cX0_goOn 77 = .ok (.iload 6, 2) := by decide +kernel
theorem dX0_goOn_79 : decode cX0_goOn 79 = .ok (.invokestatic 78, 3) := by decide +kernel
theorem dX0_goOn_82 : decode cX0_goOn 82 = .ok (.istore 7, 2) := by decide +kernel
theorem dX0_goOn_84 : decode cX0_goOn 84 = .ok (.iload 7, 2) := by decide +kernel
theorem dX0_goOn_86 : decode cX0_goOn 86 = .ok (.aload_n 0, 1) := by decide +kernel
theorem dX0_goOn_87 : decode cX0_goOn 87 = .ok (.getfield 50, 3) := by decide +kernel
theorem dX0_goOn_90 : decode cX0_goOn 90 = .ok (.iload 6, 2) := by decide +kernel
theorem dX0_goOn_92 : decode cX0_goOn 92 = .ok (.invokestatic 84, 3) := by decide +kernel
theorem dX0_goOn_95 : decode cX0_goOn 95 = .ok (.if_icmp .ge 22, 3) := by decide +kernel
theorem dX0_goOn_98 : decode cX0_goOn 98 = .ok (.aload_n 0, 1) := by decide +kernel
theorem dX0_goOn_99 : decode cX0_goOn 99 = .ok (.getfield 15, 3) := by decide +kernel
theorem dX0_goOn_102 : decode cX0_goOn 102 = .ok (.aload_n 0, 1) := by decide +kernel
theorem dX0_goOn_103 : decode cX0_goOn 103 = .ok (.getfield 47, 3) := by decide +kernel
theorem dX0_goOn_106 : decode cX0_goOn 106 = .ok (.iload 7, 2) := by decide +kernel
theorem dX0_goOn_108 : decode cX0_goOn 108 = .ok (.invokestatic 53, 3) := by decide +kernel
theorem dX0_goOn_111 : decode cX0_goOn 111 = .ok (.iinc 7 1, 3) := by decide +kernel
theorem dX0_goOn_114 : decode cX0_goOn 114 = .ok (.goto (-30), 3) := by decide +kernel
theorem dX0_goOn_117 : decode cX0_goOn 117 = .ok (.aload_n 0, 1) := by decide +kernel
theorem dX0_goOn_118 : decode cX0_goOn 118 = .ok (.dup, 1) := by decide +kernel
theorem dX0_goOn_119 : decode cX0_goOn 119 = .ok (.getfield 38, 3) := by decide +kernel
theorem dX0_goOn_122 : decode cX0_goOn 122 = .ok (.aload_n 0, 1) := by decide +kernel
theorem dX0_goOn_123 : decode cX0_goOn 123 = .ok (.getfield 47, 3) := by decide +kernel
theorem dX0_goOn_126 : decode cX0_goOn 126 = .ok (.iload 6, 2) := by decide +kernel
theorem dX0_goOn_128 : decode cX0_goOn 128 = .ok (.imul, 1) := by decide +kernel
theorem dX0_goOn_129 : decode cX0_goOn 129 = .ok (.iload 5, 2) := by decide +kernel
theorem dX0_goOn_131 : decode cX0_goOn 131 = .ok (.aload_n 0, 1) := by decide +kernel
theorem dX0_goOn_132 : decode cX0_goOn 132 = .ok (.getfield 50, 3) := by decide +kernel
theorem dX0_goOn_135 : decode cX0_goOn 135 = .ok (.imul, 1) := by decide +kernel
theorem dX0_goOn_136 : decode cX0_goOn 136 = .ok (.isub, 1) := by decide +kernel
theorem dX0_goOn_137 : decode cX0_goOn 137 = .ok (.iadd, 1) := by decide +kernel
theorem dX0_goOn_138 : decode cX0_goOn 138 = .ok (.putfield 38, 3) := by decide +kernel
theorem dX0_goOn_141 : decode cX0_goOn 141 = .ok (.aload_n 0, 1) := by decide +kernel
theorem dX0_goOn_142 : decode cX0_goOn 142 = .ok (.dup, 1) := by decide +kernel
theorem dX0_goOn_143 : decode cX0_goOn 143 = .ok (.getfield 35, 3) := by decide +kernel
theorem dX0_goOn_146 : decode cX0_goOn 146 = .ok (.iload_n 2, 1) := by decide +kernel
theorem dX0_goOn_147 : decode cX0_goOn 147 = .ok (.iadd, 1) := by decide +kernel
theorem dX0_goOn_148 : decode cX0_goOn 148 = .ok (.putfield 35, 3) := by decide +kernel
theorem dX0_goOn_151 : decode cX0_goOn 151 = .ok (.aload_n 0, 1) := by decide +kernel
theorem dX0_goOn_152 : decode cX0_goOn 152 = .ok (.iload 5, 2) := by decide +kernel
theorem dX0_goOn_154 : decode cX0_goOn 154 = .ok (.putfield 47, 3) := by decide +kernel
theorem dX0_goOn_157 : decode cX0_goOn 157 = .ok (.aload_n 0, 1) := by decide +kernel
theorem dX0_goOn_158 : decode cX0_goOn 158 = .ok (.iload 6, 2) := by decide +kernel
theorem dX0_goOn_160 : decode cX0_goOn 160 = .ok (.putfield 50, 3) := by decide +kernel
theorem dX0_goOn_163 : decode cX0_goOn 163 = .ok (.aload_n 0, 1) := by decide +kernel
theorem dX0_goOn_164 : decode cX0_goOn 164 = .ok (.aload_n 0, 1) := by decide +kernel
theorem dX0_goOn_165 : decode cX0_goOn 165 = .ok (.getfield 47, 3) := by decide +kernel
theorem dX0_goOn_168 : decode cX0_goOn 168 = .ok (.aload_n 0, 1) := by decide +kernel
theorem dX0_goOn_169 : decode cX0_goOn 169 = .ok (.getfield 41, 3) := by decide +kernel
theorem dX0_goOn_172 : decode cX0_goOn 172 = .ok (.if_icmp .ne 18, 3) := by decide +kernel
theorem dX0_goOn_175 : decode cX0_goOn 175 = .ok (.aload_n 0, 1) := by decide +kernel
theorem dX0_goOn_176 : decode cX0_goOn 176 = .ok (.getfield 50, 3) := by decide +kernel
theorem dX0_goOn_179 : decode cX0_goOn 179 = .ok (.aload_n 0, 1) := by decide +kernel
theorem dX0_goOn_180 : decode cX0_goOn 180 = .ok (.getfield 44, 3) := by decide +kernel
theorem dX0_goOn_183 : decode cX0_goOn 183 = .ok (.if_icmp .ne 7, 3) := by decide +kernel
theorem dX0_goOn_186 : decode cX0_goOn 186 = .ok (.iconst 1, 1) := by decide +kernel
theorem dX0_goOn_187 : decode cX0_goOn 187 = .ok (.goto 4, 3) := by decide +kernel
theorem dX0_goOn_190 : decode cX0_goOn 190 = .ok (.iconst 0, 1) := by decide +kernel
theorem dX0_goOn_191 : decode cX0_goOn 191 = .ok (.putfield 61, 3) := by decide +kernel
theorem dX0_goOn_194 : decode cX0_goOn 194 = .ok (.return_, 1) := by decide +kernel
theorem dX0_addOpening_0 : decode cX0_addOpening 0 = .ok (.aload_n 0, 1) := by decide +kernel
theorem dX0_addOpening_1 : decode cX0_addOpening 1 = .ok (.getfield 31, 3) := by decide +kernel
theorem dX0_addOpening_4 : decode cX0_addOpening 4 = .ok (.aload_n 0, 1) := by decide +kernel
theorem dX0_addOpening_5 : decode cX0_addOpening 5 = .ok (.getfield 18, 3) := by decide +kernel
theorem dX0_addOpening_8 : decode cX0_addOpening 8 = .ok (.arraylength, 1) := by decide +kernel
theorem dX0_addOpening_9 : decode cX0_addOpening 9 = .ok (.if_icmp .lt 5, 3) := by decide +kernel
theorem dX0_addOpening_12 : decode cX0_addOpening 12 = .ok (.iconst 0, 1) := by decide +kernel
theorem dX0_addOpening_13 : decode cX0_addOpening 13 = .ok (.ireturn, 1) := by decide +kernel
theorem dX0_addOpening_14 : decode cX0_addOpening 14 = .ok (.aload_n 0, 1) := by decide +kernel
theorem dX0_addOpening_15 : decode cX0_addOpening 15 = .ok (.getfield 18, 3) := by decide +kernel
theorem dX0_addOpening_18 : decode cX0_addOpening 18 = .ok (.aload_n 0, 1) := by decide +kernel
theorem dX0_addOpening_19 : decode cX0_addOpening 19 = .ok (.getfield 31, 3) := by decide +kernel
theorem dX0_addOpening_22 : decode cX0_addOpening 22 = .ok (.iload_n 1, 1) := by decide +kernel
theorem dX0_addOpening_23 : decode cX0_addOpening 23 = .ok (.iastore, 1) := by decide +kernel
theorem dX0_addOpening_24 : decode cX0_addOpening 24 = .ok (.aload_n 0, 1) := by decide +kernel
theorem dX0_addOpening_25 : decode cX0_addOpening 25 = .ok (.dup, 1) := by decide +kernel
theorem dX0_addOpening_26 : decode cX0_addOpening 26 = .ok (.getfield 31, 3) := by decide +kernel
theorem dX0_addOpening_29 : decode cX0_addOpening 29 = .ok (.iconst 1, 1) := by decide +kernel
theorem dX0_addOpening_30 : decode cX0_addOpening 30 = .ok (.iadd, 1) := by decide +kernel
theorem dX0_addOpening_31 : decode cX0_addOpening 31 = .ok (.putfield 31, 3) := by decide +kernel
theorem dX0_addOpening_34 : decode cX0_addOpening 34 = .ok (.iconst 1, 1) := by decide +kernel
theorem dX0_addOpening_35 : decode cX0_addOpening 35 = .ok (.ireturn, 1) := by decide +kernel
theorem dX0_areaByCorners_0 : decode cX0_areaByCorners 0 = .ok (.aload_n 0, 1) := by decide +kernel
theorem dX0_areaByCorners_1 : decode cX0_areaByCorners 1 = .ok (.getfield 38, 3) := by decide +kernel
theorem dX0_areaByCorners_4 : decode cX0_areaByCorners 4 = .ok (.invokestatic 87, 3) := by decide +kernel
theorem dX0_areaByCorners_7 : decode cX0_areaByCorners 7 = .ok (.iconst 2, 1) := by decide +kernel
theorem dX0_areaByCorners_8 : decode cX0_areaByCorners 8 = .ok (.idiv, 1) := by decide +kernel
theorem dX0_areaByCorners_9 : decode cX0_areaByCorners 9 = .ok (.ireturn, 1) := by decide +kernel
set_option maxRecDepth 20000 in
theorem ggX0_squaresInside_X0_squaresInStrip : GoodIn wsX0_squaresInside wsX0_squaresInStrip := goodIn_r _ [5, 6, 7, 8, 4, 9, 10, 11, 12, 13, 14, 15, 16, 17, 18, 19, 20, 21, 22, 23, 24] (by decide +kernel) (by decide +kernel)
set_option maxRecDepth 20000 in
theorem gX0_squaresInside_X0_squaresInStrip : GoodIn wsX0_squaresInside (wsV RX0 90 RX0 yX0_squaresInStrip wsX0_squaresInStrip) := goodIn_app (goodIn_of _ (by decide +kernel)) ggX0_squaresInside_X0_squaresInStrip
theorem dX0_squaresInside_0 : decode cX0_squaresInside 0 = .ok (.iconst 0, 1) := by decide +kernel
theorem dX0_squaresInside_1 : decode cX0_squaresInside 1 = .ok (.istore_n 1, 1) := by decide +kernel
theorem dX0_squaresInside_2 : decode cX0_squaresInside 2 = .ok (.iconst 0, 1) := by decide +kernel
theorem dX0_squaresInside_3 : decode cX0_squaresInside 3 = .ok (.istore_n 2, 1) := by decide +kernel
theorem dX0_squaresInside_4 : decode cX0_squaresInside 4 = .ok (.iload_n 2, 1) := by decide +kernel
theorem dX0_squaresInside_5 : decode cX0_squaresInside 5 = .ok (.bipush 40, 2) := by decide +kernel
theorem dX0_squaresInside_7 : decode cX0_squaresInside 7 = .ok (.if_icmp .ge 17, 3) := by decide +kernel
theorem dX0_squaresInside_10 : decode cX0_squaresInside 10 = .ok (.iload_n 1, 1) := by decide +kernel
theorem dX0_squaresInside_11 : decode cX0_squaresInside 11 = .ok (.aload_n 0, 1) := by decide +kernel
theorem dX0_squaresInside_12 : decode cX0_squaresInside 12 = .ok (.iload_n 2, 1) := by decide +kernel
theorem dX0_squaresInside_13 : decode cX0_squaresInside 13 = .ok (.invokevirtual 90, 3) := by decide +kernel
theorem dX0_squaresInside_16 : decode cX0_squaresInside 16 = .ok (.iadd, 1) := by decide +kernel
theorem dX0_squaresInside_17 : decode cX0_squaresInside 17 = .ok (.istore_n 1, 1) := by decide +kernel
theorem dX0_squaresInside_18 : decode cX0_squaresInside 18 = .ok (.iinc 2 1, 3) := by decide +kernel
theorem dX0_squaresInside_21 : decode cX0_squaresInside 21 = .ok (.goto (-17), 3) := by decide +kernel
theorem dX0_squaresInside_24 : decode cX0_squaresInside 24 = .ok (.iload_n 1, 1) := by decide +kernel
theorem dX0_squaresInside_25 : decode cX0_squaresInside 25 = .ok (.ireturn, 1) := by decide +kernel
set_option maxRecDepth 20000 in
theorem ggX0_areaLeft_X0_areaByCorners : GoodIn wsX0_areaLeft wsX0_areaByCorners := goodIn_r _ [10, 11, 12, 13, 4, 14, 15, 16, 17, 18, 19, 20, 21, 22, 23, 24, 25, 26] (by decide +kernel) (by decide +kernel)
set_option maxRecDepth 20000 in
theorem gX0_areaLeft_X0_areaByCorners : GoodIn wsX0_areaLeft (wsV RX0 93 RX0 yX0_areaByCorners wsX0_areaByCorners) := goodIn_app (goodIn_of _ (by decide +kernel)) ggX0_areaLeft_X0_areaByCorners
theorem dX0_areaLeft_0 : decode cX0_areaLeft 0 = .ok (.aload_n 0, 1) := by decide +kernel
theorem dX0_areaLeft_1 : decode cX0_areaLeft 1 = .ok (.invokevirtual 93, 3) := by decide +kernel
theorem dX0_areaLeft_4 : decode cX0_areaLeft 4 = .ok (.istore_n 2, 1) := by decide +kernel
theorem dX0_areaLeft_5 : decode cX0_areaLeft 5 = .ok (.iconst 0, 1) := by decide +kernel
theorem dX0_areaLeft_6 : decode cX0_areaLeft 6 = .ok (.istore_n 3, 1) := by decide +kernel
theorem dX0_areaLeft_7 : decode cX0_areaLeft 7 = .ok (.iload_n 3, 1) := by decide +kernel
theorem dX0_areaLeft_8 : decode cX0_areaLeft 8 = .ok (.aload_n 0, 1) := by decide +kernel
theorem dX0_areaLeft_9 : decode cX0_areaLeft 9 = .ok (.getfield 18, 3) := by decide +kernel
theorem dX0_areaLeft_12 : decode cX0_areaLeft 12 = .ok (.arraylength, 1) := by decide +kernel
theorem dX0_areaLeft_13 : decode cX0_areaLeft 13 = .ok (.if_icmp .ge 28, 3) := by decide +kernel
theorem dX0_areaLeft_16 : decode cX0_areaLeft 16 = .ok (.aload_n 0, 1) := by decide +kernel
theorem dX0_areaLeft_17 : decode cX0_areaLeft 17 = .ok (.getfield 18, 3) := by decide +kernel
theorem dX0_areaLeft_20 : decode cX0_areaLeft 20 = .ok (.iload_n 3, 1) := by decide +kernel
theorem dX0_areaLeft_21 : decode cX0_areaLeft 21 = .ok (.iaload, 1) := by decide +kernel
theorem dX0_areaLeft_22 : decode cX0_areaLeft 22 = .ok (.iload_n 1, 1) := by decide +kernel
theorem dX0_areaLeft_23 : decode cX0_areaLeft 23 = .ok (.if_icmp .le 12, 3) := by decide +kernel
theorem dX0_areaLeft_26 : decode cX0_areaLeft 26 = .ok (.iload_n 2, 1) := by decide +kernel
theorem dX0_areaLeft_27 : decode cX0_areaLeft 27 = .ok (.aload_n 0, 1) := by decide +kernel
theorem dX0_areaLeft_28 : decode cX0_areaLeft 28 = .ok (.getfield 18, 3) := by decide +kernel
theorem dX0_areaLeft_31 : decode cX0_areaLeft 31 = .ok (.iload_n 3, 1) := by decide +kernel
theorem dX0_areaLeft_32 : decode cX0_areaLeft 32 = .ok (.iaload, 1) := by decide +kernel
theorem dX0_areaLeft_33 : decode cX0_areaLeft 33 = .ok (.isub, 1) := by decide +kernel
theorem dX0_areaLeft_34 : decode cX0_areaLeft 34 = .ok (.istore_n 2, 1) := by decide +kernel
theorem dX0_areaLeft_35 : decode cX0_areaLeft 35 = .ok (.iinc 3 1, 3) := by decide +kernel
theorem dX0_areaLeft_38 : decode cX0_areaLeft 38 = .ok (.goto (-31), 3) := by decide +kernel
theorem dX0_areaLeft_41 : decode cX0_areaLeft 41 = .ok (.iconst 0, 1) := by decide +kernel
theorem dX0_areaLeft_42 : decode cX0_areaLeft 42 = .ok (.iload_n 2, 1) := by decide +kernel
theorem dX0_areaLeft_43 : decode cX0_areaLeft 43 = .ok (.invokestatic 84, 3) := by decide +kernel
theorem dX0_areaLeft_46 : decode cX0_areaLeft 46 = .ok (.ireturn, 1) := by decide +kernel
set_option maxRecDepth 20000 in
theorem ggX0_squaresInStrip_X0_isMarked : GoodIn wsX0_squaresInStrip wsX0_isMarked := goodIn_r _ [5, 6, 7, 4, 8] (by decide +kernel) (by decide +kernel)
set_option maxRecDepth 20000 in
theorem gX0_squaresInStrip_X0_isMarked : GoodIn wsX0_squaresInStrip (va_wsS RX0 97 yX0_isMarked wsX0_isMarked) := goodIn_app (goodIn_of _ (by decide +kernel)) ggX0_squaresInStrip_X0_isMarked
theorem dX0_squaresInStrip_0 : decode cX0_squaresInStrip 0 = .ok (.iconst 0, 1) := by decide +kernel
theorem dX0_squaresInStrip_1 : decode cX0_squaresInStrip 1 = .ok (.istore_n 2, 1) := by decide +kernel
theorem dX0_squaresInStrip_2 : decode cX0_squaresInStrip 2 = .ok (.iconst 0, 1) := by decide +kernel
theorem dX0_squaresInStrip_3 : decode cX0_squaresInStrip 3 = .ok (.istore_n 3, 1) := by decide +kernel
theorem dX0_squaresInStrip_4 : decode cX0_squaresInStrip 4 = .ok (.iconst 0, 1) := by decide +kernel
theorem dX0_squaresInStrip_5 : decode cX0_squaresInStrip 5 = .ok (.istore 4, 2) := by decide +kernel
theorem dX0_squaresInStrip_7 : decode cX0_squaresInStrip 7 = .ok (.iload 4, 2) := by decide +kernel
theorem dX0_squaresInStrip_9 : decode cX0_squaresInStrip 9 = .ok (.bipush 40, 2) := by decide +kernel
theorem dX0_squaresInStrip_11 : decode cX0_squaresInStrip 11 = .ok (.if_icmp .ge 39, 3) := by decide +kernel
theorem dX0_squaresInStrip_14 : decode cX0_squaresInStrip 14 = .ok (.aload_n 0, 1) := by decide +kernel
theorem dX0_squaresInStrip_15 : decode cX0_squaresInStrip 15 = .ok (.getfield 15, 3) := by decide +kernel
theorem dX0_squaresInStrip_18 : decode cX0_squaresInStrip 18 = .ok (.iload 4, 2) := by decide +kernel
theorem dX0_squaresInStrip_20 : decode cX0_squaresInStrip 20 = .ok (.iload_n 1, 1) := by decide +kernel
theorem dX0_squaresInStrip_21 : decode cX0_squaresInStrip 21 = .ok (.invokestatic 97, 3) := by decide +kernel
theorem dX0_squaresInStrip_24 : decode cX0_squaresInStrip 24 = .ok (.ifCond .eq 13, 3) := by decide +kernel
theorem dX0_squaresInStrip_27 : decode cX0_squaresInStrip 27 = .ok (.iload_n 3, 1) := by decide +kernel
theorem dX0_squaresInStrip_28 : decode cX0_squaresInStrip 28 = .ok (.ifCond .ne 7, 3) := by decide +kernel
theorem dX0_squaresInStrip_31 : decode cX0_squaresInStrip 31 = .ok (.iconst 1, 1) := by decide +kernel
theorem dX0_squaresInStrip_32 : decode cX0_squaresInStrip 32 = .ok (.goto 4, 3) := by decide +kernel
theorem dX0_squaresInStrip_35 : decode cX0_squaresInStrip 35 = .ok (.iconst 0, 1) := by decide +kernel
theorem dX0_squaresInStrip_36 : decode cX0_squaresInStrip 36 = .ok (.istore_n 3, 1) := by decide +kernel
theorem dX0_squaresInStrip_37 : decode cX0_squaresInStrip 37 = .ok (.iload_n 3, 1) := by decide +kernel
theorem dX0_squaresInStrip_38 : decode cX0_squaresInStrip 38 = .ok (.ifCond .eq 6, 3) := by decide +kernel
theorem dX0_squaresInStrip_41 : decode cX0_squaresInStrip 41 = .ok (.iinc 2 1, 3) := by decide +kernel
theorem dX0_squaresInStrip_44 : decode cX0_squaresInStrip 44 = .ok (.iinc 4 1, 3) := by decide +kernel
theorem dX0_squaresInStrip_47 : decode cX0_squaresInStrip 47 = .ok (.goto (-40), 3) := by decide +kernel
theorem dX0_squaresInStrip_50 : decode cX0_squaresInStrip 50 = .ok (.iload_n 2, 1) := by decide +kernel
theorem dX0_squaresInStrip_51 : decode cX0_squaresInStrip 51 = .ok (.ireturn, 1) := by decide +kernel
set_option maxRecDepth 20000 in
theorem ggX0_isFree_X0_isPlace : GoodIn wsX0_isFree wsX0_isPlace := goodIn_r _ [5] (by decide +kernel) (by decide +kernel)
set_option maxRecDepth 20000 in
theorem gX0_isFree_X0_isPlace : GoodIn wsX0_isFree (va_wsS RX0 101 yX0_isPlace wsX0_isPlace) := goodIn_app (goodIn_of _ (by decide +kernel)) ggX0_isFree_X0_isPlace
set_option maxRecDepth 20000 in
theorem ggX0_isFree_X0_isMarked : GoodIn wsX0_isFree wsX0_isMarked := goodIn_r _ [8, 2, 3, 4, 5] (by decide +kernel) (by decide +kernel)
set_option maxRecDepth 20000 in
theorem gX0_isFree_X0_isMarked : GoodIn wsX0_isFree (va_wsS RX0 97 yX0_isMarked wsX0_isMarked) := goodIn_app (goodIn_of _ (by decide +kernel)) ggX0_isFree_X0_isMarked
theorem dX0_isFree_0 : decode cX0_isFree 0 = .ok (.iload_n 1, 1) := by decide +kernel
theorem dX0_isFree_1 : decode cX0_isFree 1 = .ok (.iload_n 2, 1) := by decide +kernel
theorem dX0_isFree_2 : decode cX0_isFree 2 = .ok (.invokestatic 101, 3) := by decide +kernel
theorem dX0_isFree_5 : decode cX0_isFree 5 = .ok (.ifCond .eq 19, 3) := by decide +kernel
theorem dX0_isFree_8 : decode cX0_isFree 8 = .ok (.aload_n 0, 1) := by decide +kernel
theorem dX0_isFree_9 : decode cX0_isFree 9 = .ok (.getfield 9, 3) := by decide +kernel
theorem dX0_isFree_12 : decode cX0_isFree 12 = .ok (.iload_n 1, 1) := by decide +kernel
theorem dX0_isFree_13 : decode cX0_isFree 13 = .ok (.iload_n 2, 1) := by decide +kernel
theorem dX0_isFree_14 : decode cX0_isFree 14 = .ok (.invokestatic 97, 3) := by decide +kernel
theorem dX0_isFree_17 : decode cX0_isFree 17 = .ok (.ifCond .ne 7, 3) := by decide +kernel
theorem dX0_isFree_20 : decode cX0_isFree 20 = .ok (.iconst 1, 1) := by decide +kernel
theorem dX0_isFree_21 : decode cX0_isFree 21 = .ok (.goto 4, 3) := by decide +kernel
theorem dX0_isFree_24 : decode cX0_isFree 24 = .ok (.iconst 0, 1) := by decide +kernel
theorem dX0_isFree_25 : decode cX0_isFree 25 = .ok (.ireturn, 1) := by decide +kernel
theorem dX0_closesAt_0 : decode cX0_closesAt 0 = .ok (.iload_n 1, 1) := by decide +kernel
theorem dX0_closesAt_1 : decode cX0_closesAt 1 = .ok (.aload_n 0, 1) := by decide +kernel
theorem dX0_closesAt_2 : decode cX0_closesAt 2 = .ok (.getfield 41, 3) := by decide +kernel
theorem dX0_closesAt_5 : decode cX0_closesAt 5 = .ok (.if_icmp .ne 23, 3) := by decide +kernel
theorem dX0_closesAt_8 : decode cX0_closesAt 8 = .ok (.iload_n 2, 1) := by decide +kernel
theorem dX0_closesAt_9 : decode cX0_closesAt 9 = .ok (.aload_n 0, 1) := by decide +kernel
theorem dX0_closesAt_10 : decode cX0_closesAt 10 = .ok (.getfield 44, 3) := by decide +kernel
theorem dX0_closesAt_13 : decode cX0_closesAt 13 = .ok (.if_icmp .ne 15, 3) := by decide +kernel
theorem dX0_closesAt_16 : decode cX0_closesAt 16 = .ok (.aload_n 0, 1) := by decide +kernel
theorem dX0_closesAt_17 : decode cX0_closesAt 17 = .ok (.getfield 35, 3) := by decide +kernel
theorem dX0_closesAt_20 : decode cX0_closesAt 20 = .ok (.iconst 3, 1) := by decide +kernel
theorem dX0_closesAt_21 : decode cX0_closesAt 21 = .ok (.if_icmp .lt 7, 3) := by decide +kernel
theorem dX0_closesAt_24 : decode cX0_closesAt 24 = .ok (.iconst 1, 1) := by decide +kernel
theorem dX0_closesAt_25 : decode cX0_closesAt 25 = .ok (.goto 4, 3) := by decide +kernel
theorem dX0_closesAt_28 : decode cX0_closesAt 28 = .ok (.iconst 0, 1) := by decide +kernel
theorem dX0_closesAt_29 : decode cX0_closesAt 29 = .ok (.ireturn, 1) := by decide +kernel
theorem dX0_eastward_0 : decode cX0_eastward 0 = .ok (.iload_n 0, 1) := by decide +kernel
theorem dX0_eastward_1 : decode cX0_eastward 1 = .ok (.ifCond .ne 7, 3) := by decide +kernel
theorem dX0_eastward_4 : decode cX0_eastward 4 = .ok (.iconst 1, 1) := by decide +kernel
theorem dX0_eastward_5 : decode cX0_eastward 5 = .ok (.goto 13, 3) := by decide +kernel
theorem dX0_eastward_8 : decode cX0_eastward 8 = .ok (.iload_n 0, 1) := by decide +kernel
theorem dX0_eastward_9 : decode cX0_eastward 9 = .ok (.iconst 2, 1) := by decide +kernel
theorem dX0_eastward_10 : decode cX0_eastward 10 = .ok (.if_icmp .ne 7, 3) := by decide +kernel
theorem dX0_eastward_13 : decode cX0_eastward 13 = .ok (.iconst (-1), 1) := by decide +kernel
theorem dX0_eastward_14 : decode cX0_eastward 14 = .ok (.goto 4, 3) := by decide +kernel
theorem dX0_eastward_17 : decode cX0_eastward 17 = .ok (.iconst 0, 1) := by decide +kernel
theorem dX0_eastward_18 : decode cX0_eastward 18 = .ok (.ireturn, 1) := by decide +kernel
theorem dX0_northward_0 : decode cX0_northward 0 = .ok (.iload_n 0, 1) := by decide +kernel
theorem dX0_northward_1 : decode cX0_northward 1 = .ok (.iconst 1, 1) := by decide +kernel
theorem dX0_northward_2 : decode cX0_northward 2 = .ok (.if_icmp .ne 7, 3) := by decide +kernel
theorem dX0_northward_5 : decode cX0_northward 5 = .ok (.iconst 1, 1) := by decide +kernel
theorem dX0_northward_6 : decode cX0_northward 6 = .ok (.goto 13, 3) := by decide +kernel
theorem dX0_northward_9 : decode cX0_northward 9 = .ok (.iload_n 0, 1) := by decide +kernel
theorem dX0_northward_10 : decode cX0_northward 10 = .ok (.iconst 3, 1) := by decide +kernel
theorem dX0_northward_11 : decode cX0_northward 11 = .ok (.if_icmp .ne 7, 3) := by decide +kernel
theorem dX0_northward_14 : decode cX0_northward 14 = .ok (.iconst (-1), 1) := by decide +kernel
theorem dX0_northward_15 : decode cX0_northward 15 = .ok (.goto 4, 3) := by decide +kernel
theorem dX0_northward_18 : decode cX0_northward 18 = .ok (.iconst 0, 1) := by decide +kernel
theorem dX0_northward_19 : decode cX0_northward 19 = .ok (.ireturn, 1) := by decide +kernel
theorem dX0_isPlace_0 : decode cX0_isPlace 0 = .ok (.iload_n 0, 1) := by decide +kernel
theorem dX0_isPlace_1 : decode cX0_isPlace 1 = .ok (.ifCond .lt 23, 3) := by decide +kernel
theorem dX0_isPlace_4 : decode cX0_isPlace 4 = .ok (.iload_n 0, 1) := by decide +kernel
theorem dX0_isPlace_5 : decode cX0_isPlace 5 = .ok (.bipush 40, 2) := by decide +kernel
theorem dX0_isPlace_7 : decode cX0_isPlace 7 = .ok (.if_icmp .gt 17, 3) := by decide +kernel
theorem dX0_isPlace_10 : decode cX0_isPlace 10 = .ok (.iload_n 1, 1) := by decide +kernel
theorem dX0_isPlace_11 : decode cX0_isPlace 11 = .ok (.ifCond .lt 13, 3) := by decide +kernel
theorem dX0_isPlace_14 : decode cX0_isPlace 14 = .ok (.iload_n 1, 1) := by decide +kernel
theorem dX0_isPlace_15 : decode cX0_isPlace 15 = .ok (.bipush 40, 2) := by decide +kernel
theorem dX0_isPlace_17 : decode cX0_isPlace 17 = .ok (.if_icmp .gt 7, 3) := by decide +kernel
theorem dX0_isPlace_20 : decode cX0_isPlace 20 = .ok (.iconst 1, 1) := by decide +kernel
theorem dX0_isPlace_21 : decode cX0_isPlace 21 = .ok (.goto 4, 3) := by decide +kernel
theorem dX0_isPlace_24 : decode cX0_isPlace 24 = .ok (.iconst 0, 1) := by decide +kernel
theorem dX0_isPlace_25 : decode cX0_isPlace 25 = .ok (.ireturn, 1) := by decide +kernel
set_option maxRecDepth 20000 in
theorem ggX0_mark_X0_isPlace : GoodIn wsX0_mark wsX0_isPlace := goodIn_r _ [4] (by decide +kernel) (by decide +kernel)
set_option maxRecDepth 20000 in
theorem gX0_mark_X0_isPlace : GoodIn wsX0_mark (va_wsS RX0 101 yX0_isPlace wsX0_isPlace) := goodIn_app (goodIn_of _ (by decide +kernel)) ggX0_mark_X0_isPlace
theorem dX0_mark_0 : decode cX0_mark 0 = .ok (.iload_n 1, 1) := by decide +kernel
theorem dX0_mark_1 : decode cX0_mark 1 = .ok (.iload_n 2, 1) := by decide +kernel
theorem dX0_mark_2 : decode cX0_mark 2 = .ok (.invokestatic 101, 3) := by decide +kernel
theorem dX0_mark_5 : decode cX0_mark 5 = .ok (.ifCond .eq 12, 3) := by decide +kernel
theorem dX0_mark_8 : decode cX0_mark 8 = .ok (.aload_n 0, 1) := by decide +kernel
theorem dX0_mark_9 : decode cX0_mark 9 = .ok (.iload_n 2, 1) := by decide +kernel
theorem dX0_mark_10 : decode cX0_mark 10 = .ok (.dup2, 1) := by decide +kernel
theorem dX0_mark_11 : decode cX0_mark 11 = .ok (.laload, 1) := by decide +kernel
theorem dX0_mark_12 : decode cX0_mark 12 = .ok (.lconst 1, 1) := by decide +kernel
theorem dX0_mark_13 : decode cX0_mark 13 = .ok (.iload_n 1, 1) := by decide +kernel
theorem dX0_mark_14 : decode cX0_mark 14 = .ok (.lshl, 1) := by decide +kernel
theorem dX0_mark_15 : decode cX0_mark 15 = .ok (.lor, 1) := by decide +kernel
theorem dX0_mark_16 : decode cX0_mark 16 = .ok (.lastore, 1) := by decide +kernel
theorem dX0_mark_17 : decode cX0_mark 17 = .ok (.return_, 1) := by decide +kernel
set_option maxRecDepth 20000 in
theorem ggX0_isMarked_X0_isPlace : GoodIn wsX0_isMarked wsX0_isPlace := goodIn_r _ [4] (by decide +kernel) (by decide +kernel)
set_option maxRecDepth 20000 in
theorem gX0_isMarked_X0_isPlace : GoodIn wsX0_isMarked (va_wsS RX0 101 yX0_isPlace wsX0_isPlace) := goodIn_app (goodIn_of _ (by decide +kernel)) ggX0_isMarked_X0_isPlace
theorem dX0_isMarked_0 : decode cX0_isMarked 0 = .ok (.iload_n 1, 1) := by decide +kernel
theorem dX0_isMarked_1 : decode cX0_isMarked 1 = .ok (.iload_n 2, 1) := by decide +kernel
theorem dX0_isMarked_2 : decode cX0_isMarked 2 = .ok (.invokestatic 101, 3) := by decide +kernel
theorem dX0_isMarked_5 : decode cX0_isMarked 5 = .ok (.ifCond .eq 19, 3) := by decide +kernel
theorem dX0_isMarked_8 : decode cX0_isMarked 8 = .ok (.aload_n 0, 1) := by decide +kernel
theorem dX0_isMarked_9 : decode cX0_isMarked 9 = .ok (.iload_n 2, 1) := by decide +kernel
theorem dX0_isMarked_10 : decode cX0_isMarked 10 = .ok (.laload, 1) := by decide +kernel
theorem dX0_isMarked_11 : decode cX0_isMarked 11 = .ok (.iload_n 1, 1) := by decide +kernel
theorem dX0_isMarked_12 : decode cX0_isMarked 12 = .ok (.lshr, 1) := by decide +kernel
theorem dX0_isMarked_13 : decode cX0_isMarked 13 = .ok (.lconst 1, 1) := by decide +kernel
theorem dX0_isMarked_14 : decode cX0_isMarked 14 = .ok (.land, 1) := by decide +kernel
theorem dX0_isMarked_15 : decode cX0_isMarked 15 = .ok (.lconst 0, 1) := by decide +kernel
theorem dX0_isMarked_16 : decode cX0_isMarked 16 = .ok (.lcmp, 1) := by decide +kernel
theorem dX0_isMarked_17 : decode cX0_isMarked 17 = .ok (.ifCond .eq 7, 3) := by decide +kernel
theorem dX0_isMarked_20 : decode cX0_isMarked 20 = .ok (.iconst 1, 1) := by decide +kernel
theorem dX0_isMarked_21 : decode cX0_isMarked 21 = .ok (.goto 4, 3) := by decide +kernel
theorem dX0_isMarked_24 : decode cX0_isMarked 24 = .ok (.iconst 0, 1) := by decide +kernel
theorem dX0_isMarked_25 : decode cX0_isMarked 25 = .ok (.ireturn, 1) := by decide +kernel
theorem dX1_init_0 : decode cX1_init 0 = .ok (.aload_n 0, 1) := by decide +kernel
theorem dX1_init_1 : decode cX1_init 1 = .ok (.invokespecial 3, 3) := by decide +kernel
theorem dX1_init_4 : decode cX1_init 4 = .ok (.aload_n 0, 1) := by decide +kernel
theorem dX1_init_5 : decode cX1_init 5 = .ok (.aload_n 1, 1) := by decide +kernel
theorem dX1_init_6 : decode cX1_init 6 = .ok (.putfield 9, 3) := by decide +kernel
theorem dX1_init_9 : decode cX1_init 9 = .ok (.aload_n 0, 1) := by decide +kernel
theorem dX1_init_10 : decode cX1_init 10 = .ok (.aload_n 2, 1) := by decide +kernel
theorem dX1_init_11 : decode cX1_init 11 = .ok (.putfield 15, 3) := by decide +kernel
theorem dX1_init_14 : decode cX1_init 14 = .ok (.aload_n 0, 1) := by decide +kernel
theorem dX1_init_15 : decode cX1_init 15 = .ok (.iload_n 3, 1) := by decide +kernel
theorem dX1_init_16 : decode cX1_init 16 = .ok (.putfield 19, 3) := by decide +kernel
theorem dX1_init_19 : decode cX1_init 19 = .ok (.return_, 1) := by decide +kernel
theorem dX1_isLeaf_0 : decode cX1_isLeaf 0 = .ok (.aload_n 0, 1) := by decide +kernel
theorem dX1_isLeaf_1 : decode cX1_isLeaf 1 = .ok (.getfield 15, 3) := by decide +kernel
theorem dX1_isLeaf_4 : decode cX1_isLeaf 4 = .ok (.ifnull 7, 3) := by decide +kernel
theorem dX1_isLeaf_7 : decode cX1_isLeaf 7 = .ok (.iconst 1, 1) := by decide +kernel
theorem dX1_isLeaf_8 : decode cX1_isLeaf 8 = .ok (.goto 4, 3) := by decide +kernel
theorem dX1_isLeaf_11 : decode cX1_isLeaf 11 = .ok (.iconst 0, 1) := by decide +kernel
theorem dX1_isLeaf_12 : decode cX1_isLeaf 12 = .ok (.ireturn, 1) := by decide +kernel
theorem dX1_standsUnder_0 : decode cX1_standsUnder 0 = .ok (.aload_n 0, 1) := by decide +kernel
theorem dX1_standsUnder_1 : decode cX1_standsUnder 1 = .ok (.astore_n 2, 1) := by decide +kernel
theorem dX1_standsUnder_2 : decode cX1_standsUnder 2 = .ok (.aload_n 2, 1) := by decide +kernel
theorem dX1_standsUnder_3 : decode cX1_standsUnder 3 = .ok (.ifnull 18, 3) := by decide +kernel
theorem dX1_standsUnder_6 : decode cX1_standsUnder 6 = .ok (.aload_n 2, 1) := by decide +kernel
theorem dX1_standsUnder_7 : decode cX1_standsUnder 7 = .ok (.aload_n 1, 1) := by decide +kernel
theorem dX1_standsUnder_8 : decode cX1_standsUnder 8 = .ok (.if_acmp .ne 5, 3) := by decide +kernel
theorem dX1_standsUnder_11 : decode cX1_standsUnder 11 = .ok (.iconst 1, 1) := by decide +kernel
theorem dX1_standsUnder_12 : decode cX1_standsUnder 12 = .ok (.ireturn, 1) := by decide +kernel
theorem dX1_standsUnder_13 : decode cX1_standsUnder 13 = .ok (.aload_n 2, 1) := by decide +kernel
theorem dX1_standsUnder_14 : decode cX1_standsUnder 14 = .ok (.getfield 9, 3) := by decide +kernel
theorem dX1_standsUnder_17 : decode cX1_standsUnder 17 = .ok (.astore_n 2, 1) := by decide +kernel
theorem dX1_standsUnder_18 : decode cX1_standsUnder 18 = .ok (.goto (-16), 3) := by decide +kernel
theorem dX1_standsUnder_21 : decode cX1_standsUnder 21 = .ok (.iconst 0, 1) := by decide +kernel
theorem dX1_standsUnder_22 : decode cX1_standsUnder 22 = .ok (.ireturn, 1) := by decide +kernel
set_option maxRecDepth 20000 in
theorem ggX1_measureWithWaste_X3_hundredthsRoundedUp : GoodIn wsX1_measureWithWaste wsX3_hundredthsRoundedUp := goodIn_r _ [5, 6] (by decide +kernel) (by decide +kernel)
set_option maxRecDepth 20000 in
theorem gX1_measureWithWaste_X3_hundredthsRoundedUp_n26 : GoodIn wsX1_measureWithWaste (wsX3_hundredthsRoundedUp) := ggX1_measureWithWaste_X3_hundredthsRoundedUp
theorem dX1_measureWithWaste_0 : decode cX1_measureWithWaste 0 = .ok (.aload_n 0, 1) := by decide +kernel
theorem dX1_measureWithWaste_1 : decode cX1_measureWithWaste 1 = .ok (.getfield 23, 3) := by decide +kernel
theorem dX1_measureWithWaste_4 : decode cX1_measureWithWaste 4 = .ok (.i2l, 1) := by decide +kernel
theorem dX1_measureWithWaste_5 : decode cX1_measureWithWaste 5 = .ok (.bipush 100, 2) := by decide +kernel
theorem dX1_measureWithWaste_7 : decode cX1_measureWithWaste 7 = .ok (.aload_n 0, 1) := by decide +kernel
theorem dX1_measureWithWaste_8 : decode cX1_measureWithWaste 8 = .ok (.getfield 19, 3) := by decide +kernel
theorem dX1_measureWithWaste_11 : decode cX1_measureWithWaste 11 = .ok (.iadd, 1) := by decide +kernel
theorem dX1_measureWithWaste_12 : decode cX1_measureWithWaste 12 = .ok (.i2l, 1) := by decide +kernel
theorem dX1_measureWithWaste_13 : decode cX1_measureWithWaste 13 = .ok (.lmul, 1) := by decide +kernel
theorem dX1_measureWithWaste_14 : decode cX1_measureWithWaste 14 = .ok (.invokestatic 26, 3) := by decide +kernel
theorem dX1_measureWithWaste_17 : decode cX1_measureWithWaste 17 = .ok (.lreturn, 1) := by decide +kernel
theorem dX2_init_0 : decode cX2_init 0 = .ok (.aload_n 0, 1) := by decide +kernel
theorem dX2_init_1 : decode cX2_init 1 = .ok (.invokespecial 1, 3) := by decide +kernel
theorem dX2_init_4 : decode cX2_init 4 = .ok (.aload_n 0, 1) := by decide +kernel
theorem dX2_init_5 : decode cX2_init 5 = .ok (.iload_n 1, 1) := by decide +kernel
theorem dX2_init_6 : decode cX2_init 6 = .ok (.putfield 7, 3) := by decide +kernel
theorem dX2_init_9 : decode cX2_init 9 = .ok (.aload_n 0, 1) := by decide +kernel
theorem dX2_init_10 : decode cX2_init 10 = .ok (.iload_n 2, 1) := by decide +kernel
theorem dX2_init_11 : decode cX2_init 11 = .ok (.putfield 13, 3) := by decide +kernel
theorem dX2_init_14 : decode cX2_init 14 = .ok (.aload_n 0, 1) := by decide +kernel
theorem dX2_init_15 : decode cX2_init 15 = .ok (.iload_n 3, 1) := by decide +kernel
theorem dX2_init_16 : decode cX2_init 16 = .ok (.putfield 16, 3) := by decide +kernel
theorem dX2_init_19 : decode cX2_init 19 = .ok (.return_, 1) := by decide +kernel
theorem dX2_isOf_0 : decode cX2_isOf 0 = .ok (.aload_n 0, 1) := by decide +kernel
theorem dX2_isOf_1 : decode cX2_isOf 1 = .ok (.getfield 7, 3) := by decide +kernel
theorem dX2_isOf_4 : decode cX2_isOf 4 = .ok (.iload_n 1, 1) := by decide +kernel
theorem dX2_isOf_5 : decode cX2_isOf 5 = .ok (.if_icmp .ne 23, 3) := by decide +kernel
theorem dX2_isOf_8 : decode cX2_isOf 8 = .ok (.aload_n 0, 1) := by decide +kernel
theorem dX2_isOf_9 : decode cX2_isOf 9 = .ok (.getfield 13, 3) := by decide +kernel
theorem dX2_isOf_12 : decode cX2_isOf 12 = .ok (.iload_n 2, 1) := by decide +kernel
theorem dX2_isOf_13 : decode cX2_isOf 13 = .ok (.if_icmp .ne 15, 3) := by decide +kernel
theorem dX2_isOf_16 : decode cX2_isOf 16 = .ok (.aload_n 0, 1) := by decide +kernel
theorem dX2_isOf_17 : decode cX2_isOf 17 = .ok (.getfield 16, 3) := by decide +kernel
theorem dX2_isOf_20 : decode cX2_isOf 20 = .ok (.iload_n 3, 1) := by decide +kernel
theorem dX2_isOf_21 : decode cX2_isOf 21 = .ok (.if_icmp .ne 7, 3) := by decide +kernel
theorem dX2_isOf_24 : decode cX2_isOf 24 = .ok (.iconst 1, 1) := by decide +kernel
theorem dX2_isOf_25 : decode cX2_isOf 25 = .ok (.goto 4, 3) := by decide +kernel
theorem dX2_isOf_28 : decode cX2_isOf 28 = .ok (.iconst 0, 1) := by decide +kernel
theorem dX2_isOf_29 : decode cX2_isOf 29 = .ok (.ireturn, 1) := by decide +kernel
set_option maxRecDepth 20000 in
theorem ggX3_init_X0_init : GoodIn wsX3_init wsX0_init := goodIn_r _ [19, 20, 2, 3, 21, 22, 23, 13, 24, 40, 41, 42, 43, 44, 45, 46, 47, 48, 49, 50, 51] (by decide +kernel) (by decide +kernel)
set_option maxRecDepth 20000 in
theorem gX3_init_X0_init_n9 : GoodIn wsX3_init (wsX0_init) := ggX3_init_X0_init
set_option maxRecDepth 20000 in
theorem ggX3_init_Jx4a65c_init_da8c8 : GoodIn wsX3_init wsJx4a65c_init_da8c8 := goodIn_r _ [27, 28, 29, 30, 31, 32, 33, 34, 35, 36, 37, 38, 39, 2, 3, 59, 60, 61] (by decide +kernel) (by decide +kernel)
set_option maxRecDepth 20000 in
theorem gX3_init_Jx4a65c_init_da8c8 : GoodIn wsX3_init (wsJx4a65c_init_da8c8) := ggX3_init_Jx4a65c_init_da8c8
theorem dX3_init_0 : decode cX3_init 0 = .ok (.aload_n 0, 1) := by decide +kernel
theorem dX3_init_1 : decode cX3_init 1 = .ok (.invokespecial 1, 3) := by decide +kernel
theorem dX3_init_4 : decode cX3_init 4 = .ok (.aload_n 0, 1) := by decide +kernel
theorem dX3_init_5 : decode cX3_init 5 = .ok (.new 7, 3) := by decide +kernel
theorem dX3_init_8 : decode cX3_init 8 = .ok (.dup, 1) := by decide +kernel
theorem dX3_init_9 : decode cX3_init 9 = .ok (.invokespecial 9, 3) := by decide +kernel
theorem dX3_init_12 : decode cX3_init 12 = .ok (.putfield 10, 3) := by decide +kernel
theorem dX3_init_15 : decode cX3_init 15 = .ok (.aload_n 0, 1) := by decide +kernel
theorem dX3_init_16 : decode cX3_init 16 = .ok (.new 16, 3) := by decide +kernel
theorem dX3_init_19 : decode cX3_init 19 = .ok (.dup, 1) := by decide +kernel
theorem dX3_init_20 : decode cX3_init 20 = .ok (.invokespecial 18, 3) := by decide +kernel
theorem dX3_init_23 : decode cX3_init 23 = .ok (.putfield 19, 3) := by decide +kernel
theorem dX3_init_26 : decode cX3_init 26 = .ok (.aload_n 0, 1) := by decide +kernel
theorem dX3_init_27 : decode cX3_init 27 = .ok (.new 16, 3) := by decide +kernel
theorem dX3_init_30 : decode cX3_init 30 = .ok (.dup, 1) := by decide +kernel
theorem dX3_init_31 : decode cX3_init 31 = .ok (.invokespecial 18, 3) := by decide +kernel
theorem dX3_init_34 : decode cX3_init 34 = .ok (.putfield 23, 3) := by decide +kernel
theorem dX3_init_37 : decode cX3_init 37 = .ok (.aload_n 0, 1) := by decide +kernel
theorem dX3_init_38 : decode cX3_init 38 = .ok (.iconst 3, 1) := by decide +kernel
theorem dX3_init_39 : decode cX3_init 39 = .ok (.newarray .int, 2) := by decide +kernel
theorem dX3_init_41 : decode cX3_init 41 = .ok (.dup, 1) := by decide +kernel
theorem dX3_init_42 : decode cX3_init 42 = .ok (.iconst 0, 1) := by decide +kernel
theorem dX3_init_43 : decode cX3_init 43 = .ok (.iconst 1, 1) := by decide +kernel
theorem dX3_init_44 : decode cX3_init 44 = .ok (.iastore, 1) := by decide +kernel
theorem dX3_init_45 : decode cX3_init 45 = .ok (.dup, 1) := by decide +kernel
theorem dX3_init_46 : decode cX3_init 46 = .ok (.iconst 1, 1) := by decide +kernel
theorem dX3_init_47 : decode cX3_init 47 = .ok (.iconst 1, 1) := by decide +kernel
theorem dX3_init_48 : decode cX3_init 48 = .ok (.iastore, 1) := by decide +kernel
theorem dX3_init_49 : decode cX3_init 49 = .ok (.dup, 1) := by decide +kernel
theorem dX3_init_50 : decode cX3_init 50 = .ok (.iconst 2, 1) := by decide +kernel
theorem dX3_init_51 : decode cX3_init 51 = .ok (.iconst 1, 1) := by decide +kernel
theorem dX3_init_52 : decode cX3_init 52 = .ok (.iastore, 1) := by decide +kernel
theorem dX3_init_53 : decode cX3_init 53 = .ok (.putfield 26, 3) := by decide +kernel
theorem dX3_init_56 : decode cX3_init 56 = .ok (.aload_n 0, 1) := by decide +kernel
theorem dX3_init_57 : decode cX3_init 57 = .ok (.bipush 10, 2) := by decide +kernel
theorem dX3_init_59 : decode cX3_init 59 = .ok (.putfield 30, 3) := by decide +kernel
theorem dX3_init_62 : decode cX3_init 62 = .ok (.aload_n 0, 1) := by decide +kernel
theorem dX3_init_63 : decode cX3_init 63 = .ok (.iconst 5, 1) := by decide +kernel
theorem dX3_init_64 : decode cX3_init 64 = .ok (.putfield 34, 3) := by decide +kernel
theorem dX3_init_67 : decode cX3_init 67 = .ok (.aload_n 0, 1) := by decide +kernel
theorem dX3_init_68 : decode cX3_init 68 = .ok (.lconst 0, 1) := by decide +kernel
theorem dX3_init_69 : decode cX3_init 69 = .ok (.putfield 37, 3) := by decide +kernel
theorem dX3_init_72 : decode cX3_init 72 = .ok (.return_, 1) := by decide +kernel
set_option maxRecDepth 20000 in
theorem ggX3_begin_X3_checkRange : GoodIn wsX3_begin wsX3_checkRange := goodIn_ca (goodIn_r _ [5, 6, 7] (by decide +kernel) (by decide +kernel)) (goodIn_sub (fun _ h => List.mem_cons_of_mem _ (List.mem_append_right _ h)) (by decide +kernel))
set_option maxRecDepth 20000 in
theorem gX3_begin_X3_checkRange : GoodIn wsX3_begin (va_wsS RX3 41 yX3_checkRange wsX3_checkRange) := goodIn_app (goodIn_of _ (by decide +kernel)) ggX3_begin_X3_checkRange
set_option maxRecDepth 20000 in
theorem ggX3_begin_X0_startAt : GoodIn wsX3_begin wsX0_startAt := goodIn_r _ [12, 13, 14, 15, 16, 17, 18, 19, 20, 21, 22, 23, 24, 25, 26, 27, 28, 29, 30, 31, 32, 33, 11, 34, 35, 36, 37, 45, 46, 47, 48, 49, 50, 51, 52, 53, 54, 55, 56] (by decide +kernel) (by decide +kernel)
set_option maxRecDepth 20000 in
theorem gX3_begin_X0_startAt : GoodIn wsX3_begin (wsV RX3 45 RX0 yX0_startAt wsX0_startAt) := goodIn_app (goodIn_of _ (by decide +kernel)) ggX3_begin_X0_startAt
theorem dX3_begin_0 : decode cX3_begin 0 = .ok (.iload_n 1, 1) := by decide +kernel
theorem dX3_begin_1 : decode cX3_begin 1 = .ok (.iconst 0, 1) := by decide +kernel
theorem dX3_begin_2 : decode cX3_begin 2 = .ok (.bipush 40, 2) := by decide +kernel
theorem dX3_begin_4 : decode cX3_begin 4 = .ok (.invokestatic 41, 3) := by decide +kernel
theorem dX3_begin_7 : decode cX3_begin 7 = .ok (.iload_n 2, 1) := by decide +kernel
theorem dX3_begin_8 : decode cX3_begin 8 = .ok (.iconst 0, 1) := by decide +kernel
theorem dX3_begin_9 : decode cX3_begin 9 = .ok (.bipush 40, 2) := by decide +kernel
theorem dX3_begin_11 : decode cX3_begin 11 = .ok (.invokestatic 41, 3) := by decide +kernel
theorem dX3_begin_14 : decode cX3_begin 14 = .ok (.aload_n 0, 1) := by decide +kernel
theorem dX3_begin_15 : decode cX3_begin 15 = .ok (.getfield 10, 3) := by decide +kernel
theorem dX3_begin_18 : decode cX3_begin 18 = .ok (.iload_n 1, 1) := by decide +kernel
theorem dX3_begin_19 : decode cX3_begin 19 = .ok (.iload_n 2, 1) := by decide +kernel
theorem dX3_begin_20 : decode cX3_begin 20 = .ok (.invokevirtual 45, 3) := by decide +kernel
theorem dX3_begin_23 : decode cX3_begin 23 = .ok (.return_, 1) := by decide +kernel
set_option maxRecDepth 20000 in
theorem ggX3_wall_X3_checkRange : GoodIn wsX3_wall wsX3_checkRange := goodIn_ca (goodIn_r _ [11, 12, 13] (by decide +kernel) (by decide +kernel)) (goodIn_sub (fun _ h => List.mem_cons_of_mem _ (List.mem_append_right _ h)) (by decide +kernel))
set_option maxRecDepth 20000 in
theorem gX3_wall_X3_checkRange : GoodIn wsX3_wall (va_wsS RX3 41 yX3_checkRange wsX3_checkRange) := goodIn_app (goodIn_of _ (by decide +kernel)) ggX3_wall_X3_checkRange
set_option maxRecDepth 20000 in
theorem ggX3_wall_X0_admits : GoodIn wsX3_wall wsX0_admits := goodIn_r _ [18, 19, 20, 21, 22, 17, 23, 24, 25, 26, 27, 28, 29, 30, 31, 32, 33, 34, 35, 36, 37, 38, 39, 40, 41, 42, 43, 44, 69, 70, 71, 72, 73, 74, 75, 76, 77, 78, 79, 80] (by decide +kernel) (by decide +kernel)
set_option maxRecDepth 20000 in
theorem gX3_wall_X0_admits : GoodIn wsX3_wall (wsV RX3 63 RX0 yX0_admits wsX0_admits) := goodIn_app (goodIn_of _ (by decide +kernel)) ggX3_wall_X0_admits
set_option maxRecDepth 20000 in
theorem ggX3_wall_X0_goOn : GoodIn wsX3_wall wsX0_goOn := goodIn_r _ [48, 31, 19, 20, 49, 50, 51, 52, 53, 54, 55, 56, 57, 44, 42, 43, 58, 21, 22, 17, 23, 24, 25, 26, 59, 60, 61, 32, 33, 34, 69, 70, 71, 72, 73, 74, 75, 76, 77, 78, 79, 80] (by decide +kernel) (by decide +kernel)
set_option maxRecDepth 20000 in
theorem gX3_wall_X0_goOn : GoodIn wsX3_wall (wsV RX3 72 RX0 yX0_goOn wsX0_goOn) := goodIn_app (goodIn_of _ (by decide +kernel)) ggX3_wall_X0_goOn
theorem dX3_wall_0 : decode cX3_wall 0 = .ok (.iload_n 1, 1) := by decide +kernel
theorem dX3_wall_1 : decode cX3_wall 1 = .ok (.iconst 0, 1) := by decide +kernel
theorem dX3_wall_2 : decode cX3_wall 2 = .ok (.iconst 3, 1) := by decide +kernel
theorem dX3_wall_3 : decode cX3_wall 3 = .ok (.invokestatic 41, 3) := by decide +kernel
theorem dX3_wall_6 : decode cX3_wall 6 = .ok (.iload_n 2, 1) := by decide +kernel
theorem dX3_wall_7 : decode cX3_wall 7 = .ok (.iconst 1, 1) := by decide +kernel
theorem dX3_wall_8 : decode cX3_wall 8 = .ok (.bipush 40, 2) := by decide +kernel
theorem dX3_wall_10 : decode cX3_wall 10 = .ok (.invokestatic 41, 3) := by decide +kernel
theorem dX3_wall_13 : decode cX3_wall 13 = .ok (.aload_n 0, 1) := by decide +kernel
theorem dX3_wall_14 : decode cX3_wall 14 = .ok (.getfield 10, 3) := by decide +kernel
theorem dX3_wall_17 : decode cX3_wall 17 = .ok (.getfield 49, 3) := by decide +kernel
theorem dX3_wall_20 : decode cX3_wall 20 = .ok (.ifCond .eq 13, 3) := by decide +kernel
theorem dX3_wall_23 : decode cX3_wall 23 = .ok (.aload_n 0, 1) := by decide +kernel
theorem dX3_wall_24 : decode cX3_wall 24 = .ok (.getfield 10, 3) := by decide +kernel
theorem dX3_wall_27 : decode cX3_wall 27 = .ok (.getfield 53, 3) := by decide +kernel
theorem dX3_wall_30 : decode cX3_wall 30 = .ok (.ifCond .eq 13, 3) := by decide +kernel
theorem dX3_wall_33 : decode cX3_wall 33 = .ok (.new 56, 3) := by decide +kernel
theorem dX3_wall_36 : decode cX3_wall 36 = .ok (.dup, 1) := by decide +kernel
theorem dX3_wall_37 : decode cX3_wall 37 = .ok (.ldc 58, 2) := by decide +kernel
theorem dX3_wall_39 : decode cX3_wall 39 = .ok (.invokespecial 60, 3) := by decide +kernel
theorem dX3_wall_42 : decode cX3_wall 42 = .ok (.athrow, 1) := by decide +kernel
theorem dX3_wall_43 : decode cX3_wall 43 = .ok (.aload_n 0, 1) := by decide +kernel
theorem dX3_wall_44 : decode cX3_wall 44 = .ok (.getfield 10, 3) := by decide +kernel
theorem dX3_wall_47 : decode cX3_wall 47 = .ok (.iload_n 1, 1) := by decide +kernel
theorem dX3_wall_48 : decode cX3_wall 48 = .ok (.iload_n 2, 1) := by decide +kernel
theorem dX3_wall_49 : decode cX3_wall 49 = .ok (.invokevirtual 63, 3) := by decide +kernel
theorem dX3_wall_52 : decode cX3_wall 52 = .ok (.ifCond .ne 13, 3) := by decide +kernel
theorem dX3_wall_55 : decode cX3_wall 55 = .ok (.new 67, 3) := by decide +kernel
theorem dX3_wall_58 : decode cX3_wall 58 = .ok (.dup, 1) := by decide +kernel
theorem dX3_wall_59 : decode cX3_wall 59 = .ok (.ldc 69, 2) := by decide +kernel
theorem dX3_wall_61 : decode cX3_wall 61 = .ok (.invokespecial 71, 3) := by decide +kernel
theorem dX3_wall_64 : decode cX3_wall 64 = .ok (.athrow, 1) := by decide +kernel
theorem dX3_wall_65 : decode cX3_wall 65 = .ok (.aload_n 0, 1) := by decide +kernel
theorem dX3_wall_66 : decode cX3_wall 66 = .ok (.getfield 10, 3) := by decide +kernel
theorem dX3_wall_69 : decode cX3_wall 69 = .ok (.iload_n 1, 1) := by decide +kernel
theorem dX3_wall_70 : decode cX3_wall 70 = .ok (.iload_n 2, 1) := by decide +kernel
theorem dX3_wall_71 : decode cX3_wall 71 = .ok (.invokevirtual 72, 3) := by decide +kernel
theorem dX3_wall_74 : decode cX3_wall 74 = .ok (.aload_n 0, 1) := by decide +kernel
theorem dX3_wall_75 : decode cX3_wall 75 = .ok (.getfield 10, 3) := by decide +kernel
theorem dX3_wall_78 : decode cX3_wall 78 = .ok (.getfield 53, 3) := by decide +kernel
theorem dX3_wall_81 : decode cX3_wall 81 = .ok (.ireturn, 1) := by decide +kernel
set_option maxRecDepth 20000 in
theorem ggX3_opening_X3_checkRange : GoodIn wsX3_opening wsX3_checkRange := goodIn_ca (goodIn_r _ [8, 9, 10] (by decide +kernel) (by decide +kernel)) (goodIn_sub (fun _ h => List.mem_cons_of_mem _ (List.mem_append_right _ h)) (by decide +kernel))
set_option maxRecDepth 20000 in
theorem gX3_opening_X3_checkRange : GoodIn wsX3_opening (va_wsS RX3 41 yX3_checkRange wsX3_checkRange) := goodIn_app (goodIn_of _ (by decide +kernel)) ggX3_opening_X3_checkRange
set_option maxRecDepth 20000 in
theorem ggX3_opening_X3_checkClosed : GoodIn wsX3_opening wsX3_checkClosed := goodIn_ca (goodIn_r _ [14, 1, 2, 3, 15, 23, 24, 25, 26, 27, 28, 29, 30, 31, 32, 33, 34, 35, 36, 37, 38, 39, 40, 41] (by decide +kernel) (by decide +kernel)) (goodIn_sub (fun _ h => List.mem_cons_of_mem _ (List.mem_append_left _ (List.mem_append_right _ h))) (by decide +kernel))
set_option maxRecDepth 20000 in
theorem gX3_opening_X3_checkClosed : GoodIn wsX3_opening (wsV RX3 75 RX3 yX3_checkClosed wsX3_checkClosed) := goodIn_app (goodIn_of _ (by decide +kernel)) ggX3_opening_X3_checkClosed
set_option maxRecDepth 20000 in
theorem ggX3_opening_X0_addOpening : GoodIn wsX3_opening wsX0_addOpening := goodIn_r _ [20, 21, 22, 30, 31, 32, 33, 34, 35, 36, 37, 38, 39, 40, 41] (by decide +kernel) (by decide +kernel)
set_option maxRecDepth 20000 in
theorem gX3_opening_X0_addOpening : GoodIn wsX3_opening (wsV RX3 78 RX0 yX0_addOpening wsX0_addOpening) := goodIn_app (goodIn_of _ (by decide +kernel)) ggX3_opening_X0_addOpening
theorem dX3_opening_0 : decode cX3_opening 0 = .ok (.iload_n 1, 1) := by decide +kernel
theorem dX3_opening_1 : decode cX3_opening 1 = .ok (.iconst 1, 1) := by decide +kernel
theorem dX3_opening_2 : decode cX3_opening 2 = .ok (.bipush 40, 2) := by decide +kernel
theorem dX3_opening_4 : decode cX3_opening 4 = .ok (.invokestatic 41, 3) := by decide +kernel
theorem dX3_opening_7 : decode cX3_opening 7 = .ok (.iload_n 2, 1) := by decide +kernel
theorem dX3_opening_8 : decode cX3_opening 8 = .ok (.iconst 1, 1) := by decide +kernel
theorem dX3_opening_9 : decode cX3_opening 9 = .ok (.bipush 40, 2) := by decide +kernel
theorem dX3_opening_11 : decode cX3_opening 11 = .ok (.invokestatic 41, 3) := by decide +kernel
theorem dX3_opening_14 : decode cX3_opening 14 = .ok (.aload_n 0, 1) := by decide +kernel
theorem dX3_opening_15 : decode cX3_opening 15 = .ok (.invokevirtual 75, 3) := by decide +kernel
theorem dX3_opening_18 : decode cX3_opening 18 = .ok (.aload_n 0, 1) := by decide +kernel
theorem dX3_opening_19 : decode cX3_opening 19 = .ok (.getfield 10, 3) := by decide +kernel
theorem dX3_opening_22 : decode cX3_opening 22 = .ok (.iload_n 1, 1) := by decide +kernel
theorem dX3_opening_23 : decode cX3_opening 23 = .ok (.iload_n 2, 1) := by decide +kernel
theorem dX3_opening_24 : decode cX3_opening 24 = .ok (.imul, 1) := by decide +kernel
theorem dX3_opening_25 : decode cX3_opening 25 = .ok (.invokevirtual 78, 3) := by decide +kernel
theorem dX3_opening_28 : decode cX3_opening 28 = .ok (.ifCond .ne 13, 3) := by decide +kernel
theorem dX3_opening_31 : decode cX3_opening 31 = .ok (.new 56, 3) := by decide +kernel
theorem dX3_opening_34 : decode cX3_opening 34 = .ok (.dup, 1) := by decide +kernel
theorem dX3_opening_35 : decode cX3_opening 35 = .ok (.ldc 82, 2) := by decide +kernel
theorem dX3_opening_37 : decode cX3_opening 37 = .ok (.invokespecial 60, 3) := by decide +kernel
theorem dX3_opening_40 : decode cX3_opening 40 = .ok (.athrow, 1) := by decide +kernel
theorem dX3_opening_41 : decode cX3_opening 41 = .ok (.aload_n 0, 1) := by decide +kernel
theorem dX3_opening_42 : decode cX3_opening 42 = .ok (.getfield 10, 3) := by decide +kernel
theorem dX3_opening_45 : decode cX3_opening 45 = .ok (.getfield 84, 3) := by decide +kernel
theorem dX3_opening_48 : decode cX3_opening 48 = .ok (.ireturn, 1) := by decide +kernel
set_option maxRecDepth 20000 in
theorem ggX3_limit_X3_checkRange : GoodIn wsX3_limit wsX3_checkRange := goodIn_ca (goodIn_r _ [5, 6, 7] (by decide +kernel) (by decide +kernel)) (goodIn_sub (fun _ h => List.mem_cons_of_mem _ (List.mem_append_right _ h)) (by decide +kernel))
set_option maxRecDepth 20000 in
theorem gX3_limit_X3_checkRange : GoodIn wsX3_limit (va_wsS RX3 41 yX3_checkRange wsX3_checkRange) := goodIn_app (goodIn_of _ (by decide +kernel)) ggX3_limit_X3_checkRange
theorem dX3_limit_0 : decode cX3_limit 0 = .ok (.iload_n 1, 1) := by decide +kernel
theorem dX3_limit_1 : decode cX3_limit 1 = .ok (.iconst 0, 1) := by decide +kernel
theorem dX3_limit_2 : decode cX3_limit 2 = .ok (.sipush 1600, 3) := by decide +kernel
theorem dX3_limit_5 : decode cX3_limit 5 = .ok (.invokestatic 41, 3) := by decide +kernel
theorem dX3_limit_8 : decode cX3_limit 8 = .ok (.aload_n 0, 1) := by decide +kernel
theorem dX3_limit_9 : decode cX3_limit 9 = .ok (.getfield 30, 3) := by decide +kernel
theorem dX3_limit_12 : decode cX3_limit 12 = .ok (.istore_n 2, 1) := by decide +kernel
theorem dX3_limit_13 : decode cX3_limit 13 = .ok (.aload_n 0, 1) := by decide +kernel
theorem dX3_limit_14 : decode cX3_limit 14 = .ok (.iload_n 1, 1) := by decide +kernel
theorem dX3_limit_15 : decode cX3_limit 15 = .ok (.putfield 30, 3) := by decide +kernel
theorem dX3_limit_18 : decode cX3_limit 18 = .ok (.iload_n 2, 1) := by decide +kernel
theorem dX3_limit_19 : decode cX3_limit 19 = .ok (.ireturn, 1) := by decide +kernel
set_option maxRecDepth 20000 in
theorem ggX3_area_X3_checkClosed : GoodIn wsX3_area wsX3_checkClosed := goodIn_ca (goodIn_r _ [6, 7, 8, 1, 9, 20, 21, 22, 23, 24, 25, 26, 27, 28, 29, 30, 31, 32, 33, 34, 35, 36, 37, 38] (by decide +kernel) (by decide +kernel)) (goodIn_sub (fun _ h => List.mem_cons_of_mem _ (List.mem_append_right _ h)) (by decide +kernel))
set_option maxRecDepth 20000 in
theorem gX3_area_X3_checkClosed : GoodIn wsX3_area (wsV RX3 75 RX3 yX3_checkClosed wsX3_checkClosed) := goodIn_app (goodIn_of _ (by decide +kernel)) ggX3_area_X3_checkClosed
set_option maxRecDepth 20000 in
theorem ggX3_area_X0_areaByCorners : GoodIn wsX3_area wsX0_areaByCorners := goodIn_r _ [14, 15, 16, 17, 18, 19, 27, 28, 29, 30, 31, 32, 33, 34, 35, 36, 37, 38] (by decide +kernel) (by decide +kernel)
set_option maxRecDepth 20000 in
theorem gX3_area_X0_areaByCorners : GoodIn wsX3_area (wsV RX3 87 RX0 yX0_areaByCorners wsX0_areaByCorners) := goodIn_app (goodIn_of _ (by decide +kernel)) ggX3_area_X0_areaByCorners
theorem dX3_area_0 : decode cX3_area 0 = .ok (.aload_n 0, 1) := by decide +kernel
theorem dX3_area_1 : decode cX3_area 1 = .ok (.invokevirtual 75, 3) := by decide +kernel
theorem dX3_area_4 : decode cX3_area 4 = .ok (.aload_n 0, 1) := by decide +kernel
theorem dX3_area_5 : decode cX3_area 5 = .ok (.getfield 10, 3) := by decide +kernel
theorem dX3_area_8 : decode cX3_area 8 = .ok (.invokevirtual 87, 3) := by decide +kernel
theorem dX3_area_11 : decode cX3_area 11 = .ok (.ireturn, 1) := by decide +kernel
set_option maxRecDepth 20000 in
theorem ggX3_areaByStrips_X3_checkClosed : GoodIn wsX3_areaByStrips wsX3_checkClosed := goodIn_ca (goodIn_r _ [6, 7, 8, 1, 9, 26, 27, 28, 29, 30, 31, 32, 33, 34, 35, 36, 37, 38, 39, 40, 41, 42, 43, 44] (by decide +kernel) (by decide +kernel)) (goodIn_sub (fun _ h => List.mem_cons_of_mem _ (List.mem_append_right _ h)) (by decide +kernel))
set_option maxRecDepth 20000 in
theorem gX3_areaByStrips_X3_checkClosed : GoodIn wsX3_areaByStrips (wsV RX3 75 RX3 yX3_checkClosed wsX3_checkClosed) := goodIn_app (goodIn_of _ (by decide +kernel)) ggX3_areaByStrips_X3_checkClosed
set_option maxRecDepth 20000 in
theorem ggX3_areaByStrips_X0_squaresInside : GoodIn wsX3_areaByStrips wsX0_squaresInside := goodIn_r _ [14, 15, 16, 17, 13, 18, 19, 20, 21, 22, 23, 24, 25, 33, 34, 35, 36, 37, 38, 39, 40, 41, 42, 43, 44] (by decide +kernel) (by decide +kernel)
set_option maxRecDepth 20000 in
theorem gX3_areaByStrips_X0_squaresInside : GoodIn wsX3_areaByStrips (wsV RX3 91 RX0 yX0_squaresInside wsX0_squaresInside) := goodIn_app (goodIn_of _ (by decide +kernel)) ggX3_areaByStrips_X0_squaresInside
theorem dX3_areaByStrips_0 : decode cX3_areaByStrips 0 = .ok (.aload_n 0, 1) := by decide +kernel
theorem dX3_areaByStrips_1 : decode cX3_areaByStrips 1 = .ok (.invokevirtual 75, 3) := by decide +kernel
theorem dX3_areaByStrips_4 : decode cX3_areaByStrips 4 = .ok (.aload_n 0, 1) := by decide +kernel
theorem dX3_areaByStrips_5 : decode cX3_areaByStrips 5 = .ok (.getfield 10, 3) := by decide +kernel
theorem dX3_areaByStrips_8 : decode cX3_areaByStrips 8 = .ok (.invokevirtual 91, 3) := by decide +kernel
theorem dX3_areaByStrips_11 : decode cX3_areaByStrips 11 = .ok (.ireturn, 1) := by decide +kernel
set_option maxRecDepth 20000 in
theorem ggX3_netArea_X3_checkClosed : GoodIn wsX3_netArea wsX3_checkClosed := goodIn_ca (goodIn_r _ [7, 8, 9, 1, 10, 29, 30, 31, 32, 33, 34, 35, 36, 37, 38, 39, 40, 41, 42, 43, 44, 45, 46, 47] (by decide +kernel) (by decide +kernel)) (goodIn_sub (fun _ h => List.mem_cons_of_mem _ (List.mem_append_right _ h)) (by decide +kernel))
set_option maxRecDepth 20000 in
theorem gX3_netArea_X3_checkClosed : GoodIn wsX3_netArea (wsV RX3 75 RX3 yX3_checkClosed wsX3_checkClosed) := goodIn_app (goodIn_of _ (by decide +kernel)) ggX3_netArea_X3_checkClosed
set_option maxRecDepth 20000 in
theorem ggX3_netArea_X0_areaLeft : GoodIn wsX3_netArea wsX0_areaLeft := goodIn_r _ [15, 16, 17, 18, 19, 20, 21, 22, 23, 14, 24, 25, 26, 27, 28, 36, 37, 38, 39, 40, 41, 42, 43, 44, 45, 46, 47] (by decide +kernel) (by decide +kernel)
set_option maxRecDepth 20000 in
theorem gX3_netArea_X0_areaLeft : GoodIn wsX3_netArea (wsV RX3 94 RX0 yX0_areaLeft wsX0_areaLeft) := goodIn_app (goodIn_of _ (by decide +kernel)) ggX3_netArea_X0_areaLeft
theorem dX3_netArea_0 : decode cX3_netArea 0 = .ok (.aload_n 0, 1) := by decide +kernel
theorem dX3_netArea_1 : decode cX3_netArea 1 = .ok (.invokevirtual 75, 3) := by decide +kernel
theorem dX3_netArea_4 : decode cX3_netArea 4 = .ok (.aload_n 0, 1) := by decide +kernel
theorem dX3_netArea_5 : decode cX3_netArea 5 = .ok (.getfield 10, 3) := by decide +kernel
theorem dX3_netArea_8 : decode cX3_netArea 8 = .ok (.aload_n 0, 1) := by decide +kernel
theorem dX3_netArea_9 : decode cX3_netArea 9 = .ok (.getfield 30, 3) := by decide +kernel
theorem dX3_netArea_12 : decode cX3_netArea 12 = .ok (.invokevirtual 94, 3) := by decide +kernel
theorem dX3_netArea_15 : decode cX3_netArea 15 = .ok (.ireturn, 1) := by decide +kernel
set_option maxRecDepth 20000 in
theorem ggX3_rate_X3_checkRange : GoodIn wsX3_rate wsX3_checkRange := goodIn_ca (goodIn_r _ [11, 12, 13] (by decide +kernel) (by decide +kernel)) (goodIn_sub (fun _ h => List.mem_cons_of_mem _ (List.mem_append_right _ h)) (by decide +kernel))
set_option maxRecDepth 20000 in
theorem gX3_rate_X3_checkRange : GoodIn wsX3_rate (va_wsS RX3 41 yX3_checkRange wsX3_checkRange) := goodIn_app (goodIn_of _ (by decide +kernel)) ggX3_rate_X3_checkRange
set_option maxRecDepth 20000 in
theorem ggX3_rate_Jx4a65c_size_8abf5 : GoodIn wsX3_rate wsJx4a65c_size_8abf5 := goodIn_r _ [18, 19, 113, 114, 115] (by decide +kernel) (by decide +kernel)
set_option maxRecDepth 20000 in
theorem gX3_rate_Jx4a65c_size_8abf5 : GoodIn wsX3_rate (wsV RX3 98 RJx4a65c yJx4a65c_size_8abf5 wsJx4a65c_size_8abf5) := goodIn_app (goodIn_of _ (by decide +kernel)) ggX3_rate_Jx4a65c_size_8abf5
set_option maxRecDepth 20000 in
theorem ggX3_rate_Jx4a65c_get_915e3 : GoodIn wsX3_rate wsJx4a65c_get_915e3 := goodIn_r _ [23, 19, 24, 25, 26, 27, 28, 29, 30, 31, 32, 33, 34, 17, 35, 36, 113, 114, 115] (by decide +kernel) (by decide +kernel)
set_option maxRecDepth 20000 in
theorem gX3_rate_Jx4a65c_get_915e3 : GoodIn wsX3_rate (wsV RX3 101 RJx4a65c yJx4a65c_get_915e3 wsJx4a65c_get_915e3) := goodIn_app (goodIn_of _ (by decide +kernel)) ggX3_rate_Jx4a65c_get_915e3
set_option maxRecDepth 20000 in
theorem ggX3_rate_X2_isOf : GoodIn wsX3_rate wsX2_isOf := goodIn_r _ [40, 41, 42, 43, 110, 111, 112] (by decide +kernel) (by decide +kernel)
set_option maxRecDepth 20000 in
theorem gX3_rate_X2_isOf : GoodIn wsX3_rate (wsV RX3 107 RX2 yX2_isOf wsX2_isOf) := goodIn_app (goodIn_of _ (by decide +kernel)) ggX3_rate_X2_isOf
set_option maxRecDepth 20000 in
theorem ggX3_rate_X2_init : GoodIn wsX3_rate wsX2_init := goodIn_r _ [46, 47, 48, 49, 41, 42, 43, 110, 111, 112] (by decide +kernel) (by decide +kernel)
set_option maxRecDepth 20000 in
theorem gX3_rate_X2_init : GoodIn wsX3_rate (wsX2_init) := ggX3_rate_X2_init
set_option maxRecDepth 20000 in
theorem ggX3_rate_Jx4a65c_add_9ea2d : GoodIn wsX3_rate wsJx4a65c_add_9ea2d := goodIn_r _ [53, 54, 55, 36, 19, 56, 57, 58, 17, 59, 60, 61, 62, 63, 64, 65, 66, 67, 68, 69, 70, 71, 72, 73, 74, 75, 76, 77, 78, 79, 80, 81, 82, 83, 84, 85, 86, 87, 88, 89, 90, 91, 92, 93, 94, 95, 96, 97, 98, 99, 100, 101, 102, 113, 114, 115] (by decide +kernel) (by decide +kernel)
set_option maxRecDepth 20000 in
theorem gX3_rate_Jx4a65c_add_9ea2d : GoodIn wsX3_rate (wsV RX3 115 RJx4a65c yJx4a65c_add_9ea2d wsJx4a65c_add_9ea2d) := goodIn_app (goodIn_of _ (by decide +kernel)) ggX3_rate_Jx4a65c_add_9ea2d
theorem dX3_rate_0 : decode cX3_rate 0 = .ok (.iload_n 1, 1) := by decide +kernel
theorem dX3_rate_1 : decode cX3_rate 1 = .ok (.iconst 0, 1) := by decide +kernel
theorem dX3_rate_2 : decode cX3_rate 2 = .ok (.bipush 50, 2) := by decide +kernel
theorem dX3_rate_4 : decode cX3_rate 4 = .ok (.invokestatic 41, 3) := by decide +kernel
theorem dX3_rate_7 : decode cX3_rate 7 = .ok (.iload_n 2, 1) := by decide +kernel
theorem dX3_rate_8 : decode cX3_rate 8 = .ok (.iconst 0, 1) := by decide +kernel
theorem dX3_rate_9 : decode cX3_rate 9 = .ok (.bipush 50, 2) := by decide +kernel
theorem dX3_rate_11 : decode cX3_rate 11 = .ok (.invokestatic 41, 3) := by decide +kernel
theorem dX3_rate_14 : decode cX3_rate 14 = .ok (.iload_n 3, 1) := by decide +kernel
theorem dX3_rate_15 : decode cX3_rate 15 = .ok (.iconst 0, 1) := by decide +kernel
theorem dX3_rate_16 : decode cX3_rate 16 = .ok (.bipush 50, 2) := by decide +kernel
theorem dX3_rate_18 : decode cX3_rate 18 = .ok (.invokestatic 41, 3) := by decide +kernel
theorem dX3_rate_21 : decode cX3_rate 21 = .ok (.iconst 0, 1) := by decide +kernel
theorem dX3_rate_22 : decode cX3_rate 22 = .ok (.istore 4, 2) := by decide +kernel
theorem dX3_rate_24 : decode cX3_rate 24 = .ok (.iload 4, 2) := by decide +kernel
theorem dX3_rate_26 : decode cX3_rate 26 = .ok (.aload_n 0, 1) := by decide +kernel
theorem dX3_rate_27 : decode cX3_rate 27 = .ok (.getfield 19, 3) := by decide +kernel
theorem dX3_rate_30 : decode cX3_rate 30 = .ok (.invokevirtual 98, 3) := by decide +kernel
theorem dX3_rate_33 : decode cX3_rate 33 = .ok (.if_icmp .ge 33, 3) := by decide +kernel
theorem dX3_rate_36 : decode cX3_rate 36 = .ok (.aload_n 0, 1) := by decide +kernel
theorem dX3_rate_37 : decode cX3_rate 37 = .ok (.getfield 19, 3) := by decide +kernel
theorem dX3_rate_40 : decode cX3_rate 40 = .ok (.iload 4, 2) := by decide +kernel
theorem dX3_rate_42 : decode cX3_rate 42 = .ok (.invokevirtual 101, 3) := by decide +kernel
theorem dX3_rate_45 : decode cX3_rate 45 = .ok (.checkcast 105, 3) := by decide +kernel
theorem dX3_rate_48 : decode cX3_rate 48 = .ok (.iload_n 1, 1) := by decide +kernel
theorem dX3_rate_49 : decode cX3_rate 49 = .ok (.iload_n 2, 1) := by decide +kernel
theorem dX3_rate_50 : decode cX3_rate 50 = .ok (.iload_n 3, 1) := by decide +kernel
theorem dX3_rate_51 : decode cX3_rate 51 = .ok (.invokevirtual 107, 3) := by decide +kernel
theorem dX3_rate_54 : decode cX3_rate 54 = .ok (.ifCond .eq 6, 3) := by decide +kernel
theorem dX3_rate_57 : decode cX3_rate 57 = .ok (.iload 4, 2) := by decide +kernel
theorem dX3_rate_59 : decode cX3_rate 59 = .ok (.ireturn, 1) := by decide +kernel
theorem dX3_rate_60 : decode cX3_rate 60 = .ok (.iinc 4 1, 3) := by decide +kernel
theorem dX3_rate_63 : decode cX3_rate 63 = .ok (.goto (-39), 3) := by decide +kernel
theorem dX3_rate_66 : decode cX3_rate 66 = .ok (.aload_n 0, 1) := by decide +kernel
theorem dX3_rate_67 : decode cX3_rate 67 = .ok (.getfield 19, 3) := by decide +kernel
theorem dX3_rate_70 : decode cX3_rate 70 = .ok (.invokevirtual 98, 3) := by decide +kernel
theorem dX3_rate_73 : decode cX3_rate 73 = .ok (.bipush 12, 2) := by decide +kernel
theorem dX3_rate_75 : decode cX3_rate 75 = .ok (.if_icmp .lt 13, 3) := by decide +kernel
theorem dX3_rate_78 : decode cX3_rate 78 = .ok (.new 56, 3) := by decide +kernel
theorem dX3_rate_81 : decode cX3_rate 81 = .ok (.dup, 1) := by decide +kernel
theorem dX3_rate_82 : decode cX3_rate 82 = .ok (.ldc 111, 2) := by decide +kernel
theorem dX3_rate_84 : decode cX3_rate 84 = .ok (.invokespecial 60, 3) := by decide +kernel
theorem dX3_rate_87 : decode cX3_rate 87 = .ok (.athrow, 1) := by decide +kernel
theorem dX3_rate_88 : decode cX3_rate 88 = .ok (.aload_n 0, 1) := by decide +kernel
theorem dX3_rate_89 : decode cX3_rate 89 = .ok (.getfield 19, 3) := by decide +kernel
theorem dX3_rate_92 : decode cX3_rate 92 = .ok (.new 105, 3) := by decide +kernel
theorem dX3_rate_95 : decode cX3_rate 95 = .ok (.dup, 1) := by decide +kernel
theorem dX3_rate_96 : decode cX3_rate 96 = .ok (.iload_n 1, 1) := by decide +kernel
theorem dX3_rate_97 : decode cX3_rate 97 = .ok (.iload_n 2, 1) := by decide +kernel
theorem dX3_rate_98 : decode cX3_rate 98 = .ok (.iload_n 3, 1) := by decide +kernel
theorem dX3_rate_99 : decode cX3_rate 99 = .ok (.invokespecial 113, 3) := by decide +kernel
theorem dX3_rate_102 : decode cX3_rate 102 = .ok (.invokevirtual 115, 3) := by decide +kernel
theorem dX3_rate_105 : decode cX3_rate 105 = .ok (.pop, 1) := by decide +kernel
theorem dX3_rate_106 : decode cX3_rate 106 = .ok (.aload_n 0, 1) := by decide +kernel
theorem dX3_rate_107 : decode cX3_rate 107 = .ok (.getfield 19, 3) := by decide +kernel
theorem dX3_rate_110 : decode cX3_rate 110 = .ok (.invokevirtual 98, 3) := by decide +kernel
theorem dX3_rate_113 : decode cX3_rate 113 = .ok (.iconst 1, 1) := by decide +kernel
theorem dX3_rate_114 : decode cX3_rate 114 = .ok (.isub, 1) := by decide +kernel
theorem dX3_rate_115 : decode cX3_rate 115 = .ok (.ireturn, 1) := by decide +kernel
set_option maxRecDepth 20000 in
theorem ggX3_price_X3_checkRange : GoodIn wsX3_price wsX3_checkRange := goodIn_ca (goodIn_r _ [5, 6, 7] (by decide +kernel) (by decide +kernel)) (goodIn_sub (fun _ h => List.mem_cons_of_mem _ (List.mem_append_right _ h)) (by decide +kernel))
set_option maxRecDepth 20000 in
theorem gX3_price_X3_checkRange : GoodIn wsX3_price (va_wsS RX3 41 yX3_checkRange wsX3_checkRange) := goodIn_app (goodIn_of _ (by decide +kernel)) ggX3_price_X3_checkRange
theorem dX3_price_0 : decode cX3_price 0 = .ok (.iload_n 1, 1) := by decide +kernel
theorem dX3_price_1 : decode cX3_price 1 = .ok (.iconst 0, 1) := by decide +kernel
theorem dX3_price_2 : decode cX3_price 2 = .ok (.iconst 2, 1) := by decide +kernel
theorem dX3_price_3 : decode cX3_price 3 = .ok (.invokestatic 41, 3) := by decide +kernel
theorem dX3_price_6 : decode cX3_price 6 = .ok (.iload_n 2, 1) := by decide +kernel
theorem dX3_price_7 : decode cX3_price 7 = .ok (.iconst 0, 1) := by decide +kernel
theorem dX3_price_8 : decode cX3_price 8 = .ok (.sipush 1000, 3) := by decide +kernel
theorem dX3_price_11 : decode cX3_price 11 = .ok (.invokestatic 41, 3) := by decide +kernel
theorem dX3_price_14 : decode cX3_price 14 = .ok (.aload_n 0, 1) := by decide +kernel
theorem dX3_price_15 : decode cX3_price 15 = .ok (.getfield 26, 3) := by decide +kernel
theorem dX3_price_18 : decode cX3_price 18 = .ok (.iload_n 1, 1) := by decide +kernel
theorem dX3_price_19 : decode cX3_price 19 = .ok (.iaload, 1) := by decide +kernel
theorem dX3_price_20 : decode cX3_price 20 = .ok (.istore_n 3, 1) := by decide +kernel
theorem dX3_price_21 : decode cX3_price 21 = .ok (.aload_n 0, 1) := by decide +kernel
theorem dX3_price_22 : decode cX3_price 22 = .ok (.getfield 26, 3) := by decide +kernel
theorem dX3_price_25 : decode cX3_price 25 = .ok (.iload_n 1, 1) := by decide +kernel
theorem dX3_price_26 : decode cX3_price 26 = .ok (.iload_n 2, 1) := by decide +kernel
theorem dX3_price_27 : decode cX3_price 27 = .ok (.iastore, 1) := by decide +kernel
theorem dX3_price_28 : decode cX3_price 28 = .ok (.iload_n 3, 1) := by decide +kernel
theorem dX3_price_29 : decode cX3_price 29 = .ok (.ireturn, 1) := by decide +kernel
set_option maxRecDepth 20000 in
theorem ggX3_rateOf_X3_rateAt : GoodIn wsX3_rateOf wsX3_rateAt := goodIn_ca (goodIn_r _ [5, 6, 7, 8, 9, 10, 11, 12, 13, 14, 15, 16, 17, 18, 19, 20, 21, 22, 23, 24, 25, 26, 27, 28, 29, 30, 31, 32, 41, 42, 43, 44, 45, 46, 47, 48, 49, 50] (by decide +kernel) (by decide +kernel)) (goodIn_sub (fun _ h => List.mem_cons_of_mem _ (List.mem_append_right _ h)) (by decide +kernel))
set_option maxRecDepth 20000 in
theorem gX3_rateOf_X3_rateAt : GoodIn wsX3_rateOf (wsV RX3 119 RX3 yX3_rateAt wsX3_rateAt) := goodIn_app (goodIn_of _ (by decide +kernel)) ggX3_rateOf_X3_rateAt
set_option maxRecDepth 20000 in
theorem ggX3_rateOf_X3_priceOf : GoodIn wsX3_rateOf wsX3_priceOf := goodIn_r _ [36, 37, 38, 39, 40, 51, 52, 53, 41, 42, 43, 44, 45, 46, 47] (by decide +kernel) (by decide +kernel)
set_option maxRecDepth 20000 in
theorem gX3_rateOf_X3_priceOf : GoodIn wsX3_rateOf (wsV RX3 123 RX3 yX3_priceOf wsX3_priceOf) := goodIn_app (goodIn_of _ (by decide +kernel)) ggX3_rateOf_X3_priceOf
theorem dX3_rateOf_0 : decode cX3_rateOf 0 = .ok (.aload_n 0, 1) := by decide +kernel
theorem dX3_rateOf_1 : decode cX3_rateOf 1 = .ok (.aload_n 0, 1) := by decide +kernel
theorem dX3_rateOf_2 : decode cX3_rateOf 2 = .ok (.iload_n 1, 1) := by decide +kernel
theorem dX3_rateOf_3 : decode cX3_rateOf 3 = .ok (.invokevirtual 119, 3) := by decide +kernel
theorem dX3_rateOf_6 : decode cX3_rateOf 6 = .ok (.invokevirtual 123, 3) := by decide +kernel
theorem dX3_rateOf_9 : decode cX3_rateOf 9 = .ok (.ireturn, 1) := by decide +kernel
set_option maxRecDepth 20000 in
theorem ggX3_heading_X3_parentAt : GoodIn wsX3_heading wsX3_parentAt := goodIn_ca (goodIn_r _ [5, 6, 7, 8, 4, 9, 10, 11, 12, 13, 14, 15, 16, 17, 18, 19, 20, 21, 22, 23, 24, 25, 26, 27, 28, 29, 30, 31, 32, 33, 34, 35, 36, 112, 113, 114, 115, 116, 117, 118, 119, 120, 121] (by decide +kernel) (by decide +kernel)) (goodIn_sub (fun _ h => List.mem_cons_of_mem _ (List.mem_append_left _ (List.mem_append_right _ h))) (by decide +kernel))
set_option maxRecDepth 20000 in
theorem gX3_heading_X3_parentAt : GoodIn wsX3_heading (wsV RX3 127 RX3 yX3_parentAt wsX3_parentAt) := goodIn_app (goodIn_of _ (by decide +kernel)) ggX3_heading_X3_parentAt
set_option maxRecDepth 20000 in
theorem ggX3_heading_X3_addItem : GoodIn wsX3_heading wsX3_addItem := goodIn_ca (goodIn_r _ [40, 41, 42, 12, 43, 44, 45, 46, 47, 48, 49, 50, 14, 15, 16, 17, 18, 19, 51, 52, 53, 54, 55, 56, 57, 58, 59, 60, 61, 62, 63, 64, 36, 65, 66, 67, 68, 69, 70, 71, 72, 73, 74, 75, 76, 77, 78, 79, 80, 81, 82, 83, 84, 85, 86, 87, 88, 89, 90, 91, 92, 93, 94, 95, 96, 97, 98, 99, 100, 101, 102, 103, 104, 105, 106, 107, 108, 109, 110, 111, 112, 113, 114, 115, 116, 117, 118, 122, 123, 124, 125, 126, 127, 119, 120, 121] (by decide +kernel) (by decide +kernel)) (goodIn_sub (fun _ h => List.mem_cons_of_mem _ (List.mem_append_right _ h)) (by decide +kernel))
set_option maxRecDepth 20000 in
theorem gX3_heading_X3_addItem : GoodIn wsX3_heading (wsV RX3 131 RX3 yX3_addItem wsX3_addItem) := goodIn_app (goodIn_of _ (by decide +kernel)) ggX3_heading_X3_addItem
theorem dX3_heading_0 : decode cX3_heading 0 = .ok (.aload_n 0, 1) := by decide +kernel
theorem dX3_heading_1 : decode cX3_heading 1 = .ok (.aload_n 0, 1) := by decide +kernel
theorem dX3_heading_2 : decode cX3_heading 2 = .ok (.iload_n 1, 1) := by decide +kernel
theorem dX3_heading_3 : decode cX3_heading 3 = .ok (.invokevirtual 127, 3) := by decide +kernel
theorem dX3_heading_6 : decode cX3_heading 6 = .ok (.aconst_null, 1) := by decide +kernel
theorem dX3_heading_7 : decode cX3_heading 7 = .ok (.iconst 0, 1) := by decide +kernel
theorem dX3_heading_8 : decode cX3_heading 8 = .ok (.invokevirtual 131, 3) := by decide +kernel
theorem dX3_heading_11 : decode cX3_heading 11 = .ok (.ireturn, 1) := by decide +kernel
set_option maxRecDepth 20000 in
theorem ggX3_leaf_X3_parentAt : GoodIn wsX3_leaf wsX3_parentAt := goodIn_ca (goodIn_r _ [5, 6, 7, 8, 4, 9, 10, 11, 12, 13, 14, 15, 16, 17, 18, 19, 20, 21, 22, 23, 24, 25, 26, 27, 28, 29, 30, 31, 32, 33, 34, 35, 36, 123, 124, 125, 126, 127, 128, 129, 130, 131, 132] (by decide +kernel) (by decide +kernel)) (goodIn_sub (fun _ h => List.mem_cons_of_mem _ (List.mem_append_left _ (List.mem_append_left _ (List.mem_append_right _ h)))) (by decide +kernel))
set_option maxRecDepth 20000 in
theorem gX3_leaf_X3_parentAt : GoodIn wsX3_leaf (wsV RX3 127 RX3 yX3_parentAt wsX3_parentAt) := goodIn_app (goodIn_of _ (by decide +kernel)) ggX3_leaf_X3_parentAt
set_option maxRecDepth 20000 in
theorem ggX3_leaf_X3_rateAt : GoodIn wsX3_leaf wsX3_rateAt := goodIn_ca (goodIn_r _ [40, 10, 11, 41, 42, 14, 15, 16, 17, 18, 19, 20, 21, 22, 23, 24, 25, 26, 27, 28, 29, 30, 31, 32, 33, 34, 35, 36, 123, 124, 125, 126, 127, 128, 129, 130, 131, 132] (by decide +kernel) (by decide +kernel)) (goodIn_sub (fun _ h => List.mem_cons_of_mem _ (List.mem_append_left _ (List.mem_append_left _ (List.mem_append_right _ h)))) (by decide +kernel))
set_option maxRecDepth 20000 in
theorem gX3_leaf_X3_rateAt : GoodIn wsX3_leaf (wsV RX3 119 RX3 yX3_rateAt wsX3_rateAt) := goodIn_app (goodIn_of _ (by decide +kernel)) ggX3_leaf_X3_rateAt
set_option maxRecDepth 20000 in
theorem ggX3_leaf_X3_checkRange : GoodIn wsX3_leaf wsX3_checkRange := goodIn_ca (goodIn_r _ [45, 46, 47] (by decide +kernel) (by decide +kernel)) (goodIn_sub (fun _ h => List.mem_cons_of_mem _ (List.mem_append_left _ (List.mem_append_right _ h))) (by decide +kernel))
set_option maxRecDepth 20000 in
theorem gX3_leaf_X3_checkRange : GoodIn wsX3_leaf (va_wsS RX3 41 yX3_checkRange wsX3_checkRange) := goodIn_app (goodIn_of _ (by decide +kernel)) ggX3_leaf_X3_checkRange
set_option maxRecDepth 20000 in
theorem ggX3_leaf_X3_addItem : GoodIn wsX3_leaf wsX3_addItem := goodIn_ca (goodIn_r _ [51, 52, 53, 12, 54, 55, 56, 57, 58, 59, 60, 61, 14, 15, 16, 17, 18, 19, 62, 63, 64, 65, 66, 67, 68, 69, 70, 71, 72, 73, 74, 75, 36, 76, 77, 78, 79, 80, 81, 82, 83, 84, 85, 86, 87, 88, 89, 90, 91, 92, 93, 94, 95, 96, 97, 98, 99, 100, 101, 102, 103, 104, 105, 106, 107, 108, 109, 110, 111, 112, 113, 114, 115, 116, 117, 118, 119, 120, 121, 122, 123, 124, 125, 126, 127, 128, 129, 133, 134, 135, 136, 137, 138, 130, 131, 132] (by decide +kernel) (by decide +kernel)) (goodIn_sub (fun _ h => List.mem_cons_of_mem _ (List.mem_append_right _ h)) (by decide +kernel))
set_option maxRecDepth 20000 in
theorem gX3_leaf_X3_addItem : GoodIn wsX3_leaf (wsV RX3 131 RX3 yX3_addItem wsX3_addItem) := goodIn_app (goodIn_of _ (by decide +kernel)) ggX3_leaf_X3_addItem
theorem dX3_leaf_0 : decode cX3_leaf 0 = .ok (.aload_n 0, 1) := by decide +kernel
theorem dX3_leaf_1 : decode cX3_leaf 1 = .ok (.iload_n 1, 1) := by decide +kernel
theorem dX3_leaf_2 : decode cX3_leaf 2 = .ok (.invokevirtual 127, 3) := by decide +kernel
theorem dX3_leaf_5 : decode cX3_leaf 5 = .ok (.astore 4, 2) := by decide +kernel
theorem dX3_leaf_7 : decode cX3_leaf 7 = .ok (.aload_n 0, 1) := by decide +kernel
theorem dX3_leaf_8 : decode cX3_leaf 8 = .ok (.iload_n 2, 1) := by decide +kernel
theorem dX3_leaf_9 : decode cX3_leaf 9 = .ok (.invokevirtual 119, 3) := by decide +kernel
theorem dX3_leaf_12 : decode cX3_leaf 12 = .ok (.astore 5, 2) := by decide +kernel
theorem dX3_leaf_14 : decode cX3_leaf 14 = .ok (.iload_n 3, 1) := by decide +kernel
theorem dX3_leaf_15 : decode cX3_leaf 15 = .ok (.iconst 0, 1) := by decide +kernel
theorem dX3_leaf_16 : decode cX3_leaf 16 = .ok (.bipush 50, 2) := by decide +kernel
theorem dX3_leaf_18 : decode cX3_leaf 18 = .ok (.invokestatic 41, 3) := by decide +kernel
theorem dX3_leaf_21 : decode cX3_leaf 21 = .ok (.aload_n 0, 1) := by decide +kernel
theorem dX3_leaf_22 : decode cX3_leaf 22 = .ok (.aload 4, 2) := by decide +kernel
theorem dX3_leaf_24 : decode cX3_leaf 24 = .ok (.aload 5, 2) := by decide +kernel
theorem dX3_leaf_26 : decode cX3_leaf 26 = .ok (.iload_n 3, 1) := by decide +kernel
theorem dX3_leaf_27 : decode cX3_leaf 27 = .ok (.invokevirtual 131, 3) := by decide +kernel
theorem dX3_leaf_30 : decode cX3_leaf 30 = .ok (.ireturn, 1) := by decide +kernel
set_option maxRecDepth 20000 in
theorem ggX3_items_Jx4a65c_size_8abf5 : GoodIn wsX3_items wsJx4a65c_size_8abf5 := goodIn_r _ [6, 7, 15, 16, 17] (by decide +kernel) (by decide +kernel)
set_option maxRecDepth 20000 in
theorem gX3_items_Jx4a65c_size_8abf5 : GoodIn wsX3_items (wsV RX3 98 RJx4a65c yJx4a65c_size_8abf5 wsJx4a65c_size_8abf5) := goodIn_app (goodIn_of _ (by decide +kernel)) ggX3_items_Jx4a65c_size_8abf5
theorem dX3_items_0 : decode cX3_items 0 = .ok (.aload_n 0, 1) := by decide +kernel
theorem dX3_items_1 : decode cX3_items 1 = .ok (.getfield 23, 3) := by decide +kernel
theorem dX3_items_4 : decode cX3_items 4 = .ok (.invokevirtual 98, 3) := by decide +kernel
theorem dX3_items_7 : decode cX3_items 7 = .ok (.ireturn, 1) := by decide +kernel
set_option maxRecDepth 20000 in
theorem ggX3_take_X3_itemAt : GoodIn wsX3_take wsX3_itemAt := goodIn_ca (goodIn_r _ [8, 9, 10, 11, 12, 13, 14, 15, 16, 17, 18, 19, 20, 21, 22, 23, 24, 25, 26, 27, 28, 29, 30, 31, 32, 33, 34, 35, 87, 88, 89, 90, 91, 92, 93, 94, 95, 96] (by decide +kernel) (by decide +kernel)) (goodIn_sub (fun _ h => List.mem_cons_of_mem _ (List.mem_append_left _ (List.mem_append_left _ (List.mem_append_right _ h)))) (by decide +kernel))
set_option maxRecDepth 20000 in
theorem gX3_take_X3_itemAt : GoodIn wsX3_take (wsV RX3 135 RX3 yX3_itemAt wsX3_itemAt) := goodIn_app (goodIn_of _ (by decide +kernel)) ggX3_take_X3_itemAt
set_option maxRecDepth 20000 in
theorem ggX3_take_X3_checkRange : GoodIn wsX3_take wsX3_checkRange := goodIn_ca (goodIn_r _ [38, 39, 40] (by decide +kernel) (by decide +kernel)) (goodIn_sub (fun _ h => List.mem_cons_of_mem _ (List.mem_append_left _ (List.mem_append_right _ h))) (by decide +kernel))
set_option maxRecDepth 20000 in
theorem gX3_take_X3_checkRange : GoodIn wsX3_take (va_wsS RX3 41 yX3_checkRange wsX3_checkRange) := goodIn_app (goodIn_of _ (by decide +kernel)) ggX3_take_X3_checkRange
set_option maxRecDepth 20000 in
theorem ggX3_take_X3_checkLeaf : GoodIn wsX3_take wsX3_checkLeaf := goodIn_ca (goodIn_r _ [43, 44, 45, 46, 47, 48, 49, 50, 51, 81, 82, 83, 84, 85, 86] (by decide +kernel) (by decide +kernel)) (goodIn_sub (fun _ h => List.mem_cons_of_mem _ (List.mem_append_right _ h)) (by decide +kernel))
set_option maxRecDepth 20000 in
theorem gX3_take_X3_checkLeaf : GoodIn wsX3_take (va_wsS RX3 138 yX3_checkLeaf wsX3_checkLeaf) := goodIn_app (goodIn_of _ (by decide +kernel)) ggX3_take_X3_checkLeaf
set_option maxRecDepth 20000 in
theorem ggX3_take_X3_checkClosed : GoodIn wsX3_take wsX3_checkClosed := goodIn_ca (goodIn_r _ [55, 44, 45, 2, 56, 87, 88, 89, 90, 91, 92, 93, 97, 98, 99, 100, 101, 102, 103, 104, 105, 106, 107, 108] (by decide +kernel) (by decide +kernel)) (goodIn_sub (fun _ h => List.mem_cons_of_mem _ (List.mem_append_right _ h)) (by decide +kernel))
set_option maxRecDepth 20000 in
theorem gX3_take_X3_checkClosed : GoodIn wsX3_take (wsV RX3 75 RX3 yX3_checkClosed wsX3_checkClosed) := goodIn_app (goodIn_of _ (by decide +kernel)) ggX3_take_X3_checkClosed
set_option maxRecDepth 20000 in
theorem ggX3_take_X0_areaLeft : GoodIn wsX3_take wsX0_areaLeft := goodIn_r _ [61, 62, 63, 64, 65, 66, 67, 68, 69, 60, 70, 71, 72, 73, 74, 97, 98, 99, 100, 101, 102, 103, 104, 105, 106, 107, 108] (by decide +kernel) (by decide +kernel)
set_option maxRecDepth 20000 in
theorem gX3_take_X0_areaLeft : GoodIn wsX3_take (wsV RX3 94 RX0 yX0_areaLeft wsX0_areaLeft) := goodIn_app (goodIn_of _ (by decide +kernel)) ggX3_take_X0_areaLeft
set_option maxRecDepth 20000 in
theorem ggX3_take_X0_takeAway : GoodIn wsX3_take wsX0_takeAway := goodIn_r _ [78, 79, 80, 97, 98, 99, 100, 101, 102, 103, 104, 105, 106, 107, 108] (by decide +kernel) (by decide +kernel)
set_option maxRecDepth 20000 in
theorem gX3_take_X0_takeAway : GoodIn wsX3_take (wsV RX3 147 RX0 yX0_takeAway wsX0_takeAway) := goodIn_app (goodIn_of _ (by decide +kernel)) ggX3_take_X0_takeAway
theorem dX3_take_0 : decode cX3_take 0 = .ok (.aload_n 0, 1) := by decide +kernel
theorem dX3_take_1 : decode cX3_take 1 = .ok (.iload_n 1, 1) := by decide +kernel
theorem dX3_take_2 : decode cX3_take 2 = .ok (.invokevirtual 135, 3) := by decide +kernel
theorem dX3_take_5 : decode cX3_take 5 = .ok (.astore_n 3, 1) := by decide +kernel
theorem dX3_take_6 : decode cX3_take 6 = .ok (.iload_n 2, 1) := by decide +kernel
theorem dX3_take_7 : decode cX3_take 7 = .ok (.iconst 1, 1) := by decide +kernel
theorem dX3_take_8 : decode cX3_take 8 = .ok (.bipush 20, 2) := by decide +kernel
theorem dX3_take_10 : decode cX3_take 10 = .ok (.invokestatic 41, 3) := by decide +kernel
theorem dX3_take_13 : decode cX3_take 13 = .ok (.aload_n 3, 1) := by decide +kernel
theorem dX3_take_14 : decode cX3_take 14 = .ok (.invokestatic 138, 3) := by decide +kernel
theorem dX3_take_17 : decode cX3_take 17 = .ok (.aload_n 0, 1) := by decide +kernel
theorem dX3_take_18 : decode cX3_take 18 = .ok (.invokevirtual 75, 3) := by decide +kernel
theorem dX3_take_21 : decode cX3_take 21 = .ok (.aload_n 3, 1) := by decide +kernel
theorem dX3_take_22 : decode cX3_take 22 = .ok (.dup, 1) := by decide +kernel
theorem dX3_take_23 : decode cX3_take 23 = .ok (.getfield 142, 3) := by decide +kernel
theorem dX3_take_26 : decode cX3_take 26 = .ok (.aload_n 0, 1) := by decide +kernel
theorem dX3_take_27 : decode cX3_take 27 = .ok (.getfield 10, 3) := by decide +kernel
theorem dX3_take_30 : decode cX3_take 30 = .ok (.aload_n 0, 1) := by decide +kernel
theorem dX3_take_31 : decode cX3_take 31 = .ok (.getfield 30, 3) := by decide +kernel
theorem dX3_take_34 : decode cX3_take 34 = .ok (.invokevirtual 94, 3) := by decide +kernel
theorem dX3_take_37 : decode cX3_take 37 = .ok (.iload_n 2, 1) := by decide +kernel
theorem dX3_take_38 : decode cX3_take 38 = .ok (.imul, 1) := by decide +kernel
theorem dX3_take_39 : decode cX3_take 39 = .ok (.iadd, 1) := by decide +kernel
theorem dX3_take_40 : decode cX3_take 40 = .ok (.putfield 142, 3) := by decide +kernel
theorem dX3_take_43 : decode cX3_take 43 = .ok (.aload_n 0, 1) := by decide +kernel
theorem dX3_take_44 : decode cX3_take 44 = .ok (.getfield 10, 3) := by decide +kernel
theorem dX3_take_47 : decode cX3_take 47 = .ok (.invokevirtual 147, 3) := by decide +kernel
theorem dX3_take_50 : decode cX3_take 50 = .ok (.aload_n 3, 1) := by decide +kernel
theorem dX3_take_51 : decode cX3_take 51 = .ok (.getfield 142, 3) := by decide +kernel
theorem dX3_take_54 : decode cX3_take 54 = .ok (.ireturn, 1) := by decide +kernel
set_option maxRecDepth 20000 in
theorem ggX3_vary_X3_itemAt : GoodIn wsX3_vary wsX3_itemAt := goodIn_ca (goodIn_r _ [8, 9, 10, 11, 12, 13, 14, 15, 16, 17, 18, 19, 20, 21, 22, 23, 24, 25, 26, 27, 28, 29, 30, 31, 32, 33, 34, 35, 56, 57, 58, 59, 60, 61, 62, 63, 64, 65] (by decide +kernel) (by decide +kernel)) (goodIn_sub (fun _ h => List.mem_cons_of_mem _ (List.mem_append_left _ (List.mem_append_right _ h))) (by decide +kernel))
set_option maxRecDepth 20000 in
theorem gX3_vary_X3_itemAt : GoodIn wsX3_vary (wsV RX3 135 RX3 yX3_itemAt wsX3_itemAt) := goodIn_app (goodIn_of _ (by decide +kernel)) ggX3_vary_X3_itemAt
set_option maxRecDepth 20000 in
theorem ggX3_vary_X3_checkRange : GoodIn wsX3_vary wsX3_checkRange := goodIn_ca (goodIn_r _ [38, 39, 40] (by decide +kernel) (by decide +kernel)) (goodIn_sub (fun _ h => List.mem_cons_of_mem _ (List.mem_append_right _ h)) (by decide +kernel))
set_option maxRecDepth 20000 in
theorem gX3_vary_X3_checkRange : GoodIn wsX3_vary (va_wsS RX3 41 yX3_checkRange wsX3_checkRange) := goodIn_app (goodIn_of _ (by decide +kernel)) ggX3_vary_X3_checkRange
set_option maxRecDepth 20000 in
theorem ggX3_vary_X3_checkLeaf : GoodIn wsX3_vary wsX3_checkLeaf := goodIn_ca (goodIn_r _ [43, 1, 2, 44, 45, 46, 47, 48, 49, 50, 51, 52, 53, 54, 55] (by decide +kernel) (by decide +kernel)) (goodIn_sub (fun _ h => List.mem_cons_of_mem _ (List.mem_append_left _ (List.mem_append_left _ (List.mem_append_right _ h)))) (by decide +kernel))
set_option maxRecDepth 20000 in
theorem gX3_vary_X3_checkLeaf : GoodIn wsX3_vary (va_wsS RX3 138 yX3_checkLeaf wsX3_checkLeaf) := goodIn_app (goodIn_of _ (by decide +kernel)) ggX3_vary_X3_checkLeaf
theorem dX3_vary_0 : decode cX3_vary 0 = .ok (.aload_n 0, 1) := by decide +kernel
theorem dX3_vary_1 : decode cX3_vary 1 = .ok (.iload_n 1, 1) := by decide +kernel
theorem dX3_vary_2 : decode cX3_vary 2 = .ok (.invokevirtual 135, 3) := by decide +kernel
theorem dX3_vary_5 : decode cX3_vary 5 = .ok (.astore_n 3, 1) := by decide +kernel
theorem dX3_vary_6 : decode cX3_vary 6 = .ok (.iload_n 2, 1) := by decide +kernel
theorem dX3_vary_7 : decode cX3_vary 7 = .ok (.sipush (-5000), 3) := by decide +kernel
theorem dX3_vary_10 : decode cX3_vary 10 = .ok (.sipush 5000, 3) := by decide +kernel
theorem dX3_vary_13 : decode cX3_vary 13 = .ok (.invokestatic 41, 3) := by decide +kernel
theorem dX3_vary_16 : decode cX3_vary 16 = .ok (.aload_n 3, 1) := by decide +kernel
theorem dX3_vary_17 : decode cX3_vary 17 = .ok (.invokestatic 138, 3) := by decide +kernel
theorem dX3_vary_20 : decode cX3_vary 20 = .ok (.aload_n 3, 1) := by decide +kernel
theorem dX3_vary_21 : decode cX3_vary 21 = .ok (.getfield 150, 3) := by decide +kernel
theorem dX3_vary_24 : decode cX3_vary 24 = .ok (.iload_n 2, 1) := by decide +kernel
theorem dX3_vary_25 : decode cX3_vary 25 = .ok (.iadd, 1) := by decide +kernel
theorem dX3_vary_26 : decode cX3_vary 26 = .ok (.istore 4, 2) := by decide +kernel
theorem dX3_vary_28 : decode cX3_vary 28 = .ok (.iload 4, 2) := by decide +kernel
theorem dX3_vary_30 : decode cX3_vary 30 = .ok (.sipush (-20000), 3) := by decide +kernel
theorem dX3_vary_33 : decode cX3_vary 33 = .ok (.if_icmp .lt 11, 3) := by decide +kernel
theorem dX3_vary_36 : decode cX3_vary 36 = .ok (.iload 4, 2) := by decide +kernel
theorem dX3_vary_38 : decode cX3_vary 38 = .ok (.sipush 20000, 3) := by decide +kernel
theorem dX3_vary_41 : decode cX3_vary 41 = .ok (.if_icmp .le 13, 3) := by decide +kernel
theorem dX3_vary_44 : decode cX3_vary 44 = .ok (.new 56, 3) := by decide +kernel
theorem dX3_vary_47 : decode cX3_vary 47 = .ok (.dup, 1) := by decide +kernel
theorem dX3_vary_48 : decode cX3_vary 48 = .ok (.ldc 153, 2) := by decide +kernel
theorem dX3_vary_50 : decode cX3_vary 50 = .ok (.invokespecial 60, 3) := by decide +kernel
theorem dX3_vary_53 : decode cX3_vary 53 = .ok (.athrow, 1) := by decide +kernel
theorem dX3_vary_54 : decode cX3_vary 54 = .ok (.aload_n 3, 1) := by decide +kernel
theorem dX3_vary_55 : decode cX3_vary 55 = .ok (.iload 4, 2) := by decide +kernel
theorem dX3_vary_57 : decode cX3_vary 57 = .ok (.putfield 150, 3) := by decide +kernel
theorem dX3_vary_60 : decode cX3_vary 60 = .ok (.iload 4, 2) := by decide +kernel
theorem dX3_vary_62 : decode cX3_vary 62 = .ok (.ireturn, 1) := by decide +kernel
set_option maxRecDepth 20000 in
theorem ggX3_quantity_X3_itemAt : GoodIn wsX3_quantity wsX3_itemAt := goodIn_ca (goodIn_r _ [5, 6, 7, 8, 9, 10, 11, 12, 13, 14, 15, 16, 17, 18, 19, 20, 21, 22, 23, 24, 25, 26, 27, 28, 29, 30, 31, 32, 53, 54, 55, 56, 57, 58, 59, 60, 61, 62] (by decide +kernel) (by decide +kernel)) (goodIn_sub (fun _ h => List.mem_cons_of_mem _ (List.mem_append_left _ (List.mem_append_right _ h))) (by decide +kernel))
set_option maxRecDepth 20000 in
theorem gX3_quantity_X3_itemAt : GoodIn wsX3_quantity (wsV RX3 135 RX3 yX3_itemAt wsX3_itemAt) := goodIn_app (goodIn_of _ (by decide +kernel)) ggX3_quantity_X3_itemAt
set_option maxRecDepth 20000 in
theorem ggX3_quantity_X3_checkLeaf : GoodIn wsX3_quantity wsX3_checkLeaf := goodIn_ca (goodIn_r _ [35, 36, 37, 38, 39, 40, 41, 42, 43, 63, 64, 65, 66, 67, 68] (by decide +kernel) (by decide +kernel)) (goodIn_sub (fun _ h => List.mem_cons_of_mem _ (List.mem_append_right _ h)) (by decide +kernel))
set_option maxRecDepth 20000 in
theorem gX3_quantity_X3_checkLeaf : GoodIn wsX3_quantity (va_wsS RX3 138 yX3_checkLeaf wsX3_checkLeaf) := goodIn_app (goodIn_of _ (by decide +kernel)) ggX3_quantity_X3_checkLeaf
set_option maxRecDepth 20000 in
theorem ggX3_quantity_X1_measureWithWaste : GoodIn wsX3_quantity wsX1_measureWithWaste := goodIn_r _ [47, 48, 49, 50, 4, 51, 52, 63, 64, 65, 66, 67, 68] (by decide +kernel) (by decide +kernel)
set_option maxRecDepth 20000 in
theorem gX3_quantity_X1_measureWithWaste : GoodIn wsX3_quantity (wsV RX3 155 RX1 yX1_measureWithWaste wsX1_measureWithWaste) := goodIn_app (goodIn_of _ (by decide +kernel)) ggX3_quantity_X1_measureWithWaste
theorem dX3_quantity_0 : decode cX3_quantity 0 = .ok (.aload_n 0, 1) := by decide +kernel
theorem dX3_quantity_1 : decode cX3_quantity 1 = .ok (.iload_n 1, 1) := by decide +kernel
theorem dX3_quantity_2 : decode cX3_quantity 2 = .ok (.invokevirtual 135, 3) := by decide +kernel
theorem dX3_quantity_5 : decode cX3_quantity 5 = .ok (.astore_n 2, 1) := by decide +kernel
theorem dX3_quantity_6 : decode cX3_quantity 6 = .ok (.aload_n 2, 1) := by decide +kernel
theorem dX3_quantity_7 : decode cX3_quantity 7 = .ok (.invokestatic 138, 3) := by decide +kernel
theorem dX3_quantity_10 : decode cX3_quantity 10 = .ok (.aload_n 2, 1) := by decide +kernel
theorem dX3_quantity_11 : decode cX3_quantity 11 = .ok (.invokevirtual 155, 3) := by decide +kernel
theorem dX3_quantity_14 : decode cX3_quantity 14 = .ok (.l2i, 1) := by decide +kernel
theorem dX3_quantity_15 : decode cX3_quantity 15 = .ok (.ireturn, 1) := by decide +kernel
set_option maxRecDepth 20000 in
theorem ggX3_sum_X3_itemAt : GoodIn wsX3_sum wsX3_itemAt := goodIn_ca (goodIn_r _ [7, 8, 9, 1, 2, 10, 11, 12, 13, 14, 15, 16, 17, 18, 19, 20, 21, 22, 23, 24, 25, 26, 27, 28, 29, 30, 31, 32, 66, 67, 68, 69, 70, 71, 72, 73, 74, 75] (by decide +kernel) (by decide +kernel)) (goodIn_sub (fun _ h => List.mem_cons_of_mem _ (List.mem_append_right _ h)) (by decide +kernel))
set_option maxRecDepth 20000 in
theorem gX3_sum_X3_itemAt : GoodIn wsX3_sum (wsV RX3 135 RX3 yX3_itemAt wsX3_itemAt) := goodIn_app (goodIn_of _ (by decide +kernel)) ggX3_sum_X3_itemAt
set_option maxRecDepth 20000 in
theorem ggX3_sum_Jx4a65c_size_8abf5 : GoodIn wsX3_sum wsJx4a65c_size_8abf5 := goodIn_r _ [14, 15, 73, 74, 75] (by decide +kernel) (by decide +kernel)
set_option maxRecDepth 20000 in
theorem gX3_sum_Jx4a65c_size_8abf5 : GoodIn wsX3_sum (wsV RX3 98 RJx4a65c yJx4a65c_size_8abf5 wsJx4a65c_size_8abf5) := goodIn_app (goodIn_of _ (by decide +kernel)) ggX3_sum_Jx4a65c_size_8abf5
set_option maxRecDepth 20000 in
theorem ggX3_sum_Jx4a65c_get_915e3 : GoodIn wsX3_sum wsJx4a65c_get_915e3 := goodIn_r _ [19, 15, 20, 21, 22, 23, 24, 25, 26, 27, 28, 29, 30, 13, 31, 32, 73, 74, 75] (by decide +kernel) (by decide +kernel)
set_option maxRecDepth 20000 in
theorem gX3_sum_Jx4a65c_get_915e3 : GoodIn wsX3_sum (wsV RX3 101 RJx4a65c yJx4a65c_get_915e3 wsJx4a65c_get_915e3) := goodIn_app (goodIn_of _ (by decide +kernel)) ggX3_sum_Jx4a65c_get_915e3
set_option maxRecDepth 20000 in
theorem ggX3_sum_X1_standsUnder : GoodIn wsX3_sum wsX1_standsUnder := goodIn_r _ [37, 38, 76, 77, 78, 79, 80, 81] (by decide +kernel) (by decide +kernel)
set_option maxRecDepth 20000 in
theorem gX3_sum_X1_standsUnder : GoodIn wsX3_sum (wsV RX3 159 RX1 yX1_standsUnder wsX1_standsUnder) := goodIn_app (goodIn_of _ (by decide +kernel)) ggX3_sum_X1_standsUnder
set_option maxRecDepth 20000 in
theorem ggX3_sum_X3_ownSum : GoodIn wsX3_sum wsX3_ownSum := goodIn_r _ [42, 43, 44, 45, 46, 47, 48, 49, 50, 51, 36, 52, 53, 54, 55, 6, 56, 57, 58, 59, 60, 61, 62, 63, 64, 65, 76, 77, 78, 79, 80, 81, 82, 83, 84, 66, 67, 68, 69, 70, 71, 72] (by decide +kernel) (by decide +kernel)
set_option maxRecDepth 20000 in
theorem gX3_sum_X3_ownSum : GoodIn wsX3_sum (wsV RX3 163 RX3 yX3_ownSum wsX3_ownSum) := goodIn_app (goodIn_of _ (by decide +kernel)) ggX3_sum_X3_ownSum
theorem dX3_sum_0 : decode cX3_sum 0 = .ok (.aload_n 0, 1) := by decide +kernel
theorem dX3_sum_1 : decode cX3_sum 1 = .ok (.iload_n 1, 1) := by decide +kernel
theorem dX3_sum_2 : decode cX3_sum 2 = .ok (.invokevirtual 135, 3) := by decide +kernel
theorem dX3_sum_5 : decode cX3_sum 5 = .ok (.astore_n 2, 1) := by decide +kernel
theorem dX3_sum_6 : decode cX3_sum 6 = .ok (.lconst 0, 1) := by decide +kernel
theorem dX3_sum_7 : decode cX3_sum 7 = .ok (.lstore_n 3, 1) := by decide +kernel
theorem dX3_sum_8 : decode cX3_sum 8 = .ok (.iconst 0, 1) := by decide +kernel
theorem dX3_sum_9 : decode cX3_sum 9 = .ok (.istore 5, 2) := by decide +kernel
theorem dX3_sum_11 : decode cX3_sum 11 = .ok (.iload 5, 2) := by decide +kernel
theorem dX3_sum_13 : decode cX3_sum 13 = .ok (.aload_n 0, 1) := by decide +kernel
theorem dX3_sum_14 : decode cX3_sum 14 = .ok (.getfield 23, 3) := by decide +kernel
theorem dX3_sum_17 : decode cX3_sum 17 = .ok (.invokevirtual 98, 3) := by decide +kernel
theorem dX3_sum_20 : decode cX3_sum 20 = .ok (.if_icmp .ge 41, 3) := by decide +kernel
theorem dX3_sum_23 : decode cX3_sum 23 = .ok (.aload_n 0, 1) := by decide +kernel
theorem dX3_sum_24 : decode cX3_sum 24 = .ok (.getfield 23, 3) := by decide +kernel
theorem dX3_sum_27 : decode cX3_sum 27 = .ok (.iload 5, 2) := by decide +kernel
theorem dX3_sum_29 : decode cX3_sum 29 = .ok (.invokevirtual 101, 3) := by decide +kernel
theorem dX3_sum_32 : decode cX3_sum 32 = .ok (.checkcast 143, 3) := by decide +kernel
theorem dX3_sum_35 : decode cX3_sum 35 = .ok (.astore 6, 2) := by decide +kernel
theorem dX3_sum_37 : decode cX3_sum 37 = .ok (.aload 6, 2) := by decide +kernel
theorem dX3_sum_39 : decode cX3_sum 39 = .ok (.aload_n 2, 1) := by decide +kernel
theorem dX3_sum_40 : decode cX3_sum 40 = .ok (.invokevirtual 159, 3) := by decide +kernel
theorem dX3_sum_43 : decode cX3_sum 43 = .ok (.ifCond .eq 12, 3) := by decide +kernel
theorem dX3_sum_46 : decode cX3_sum 46 = .ok (.lload_n 3, 1) := by decide +kernel
theorem dX3_sum_47 : decode cX3_sum 47 = .ok (.aload_n 0, 1) := by decide +kernel
theorem dX3_sum_48 : decode cX3_sum 48 = .ok (.aload 6, 2) := by decide +kernel
theorem dX3_sum_50 : decode cX3_sum 50 = .ok (.invokevirtual 163, 3) := by decide +kernel
theorem dX3_sum_53 : decode cX3_sum 53 = .ok (.ladd, 1) := by decide +kernel
theorem dX3_sum_54 : decode cX3_sum 54 = .ok (.lstore_n 3, 1) := by decide +kernel
theorem dX3_sum_55 : decode cX3_sum 55 = .ok (.iinc 5 1, 3) := by decide +kernel
theorem dX3_sum_58 : decode cX3_sum 58 = .ok (.goto (-47), 3) := by decide +kernel
theorem dX3_sum_61 : decode cX3_sum 61 = .ok (.lload_n 3, 1) := by decide +kernel
theorem dX3_sum_62 : decode cX3_sum 62 = .ok (.lreturn, 1) := by decide +kernel
set_option maxRecDepth 20000 in
theorem ggX3_total_Jx4a65c_size_8abf5 : GoodIn wsX3_total wsJx4a65c_size_8abf5 := goodIn_r _ [7, 8, 62, 63, 64] (by decide +kernel) (by decide +kernel)
set_option maxRecDepth 20000 in
theorem gX3_total_Jx4a65c_size_8abf5 : GoodIn wsX3_total (wsV RX3 98 RJx4a65c yJx4a65c_size_8abf5 wsJx4a65c_size_8abf5) := goodIn_app (goodIn_of _ (by decide +kernel)) ggX3_total_Jx4a65c_size_8abf5
set_option maxRecDepth 20000 in
theorem ggX3_total_Jx4a65c_get_915e3 : GoodIn wsX3_total wsJx4a65c_get_915e3 := goodIn_r _ [12, 8, 13, 14, 15, 16, 17, 18, 19, 20, 21, 22, 23, 6, 24, 25, 62, 63, 64] (by decide +kernel) (by decide +kernel)
set_option maxRecDepth 20000 in
theorem gX3_total_Jx4a65c_get_915e3 : GoodIn wsX3_total (wsV RX3 101 RJx4a65c yJx4a65c_get_915e3 wsJx4a65c_get_915e3) := goodIn_app (goodIn_of _ (by decide +kernel)) ggX3_total_Jx4a65c_get_915e3
set_option maxRecDepth 20000 in
theorem ggX3_total_X3_ownSum : GoodIn wsX3_total wsX3_ownSum := goodIn_r _ [30, 31, 32, 33, 34, 35, 36, 37, 38, 39, 40, 41, 42, 43, 44, 29, 45, 46, 47, 48, 49, 50, 51, 52, 53, 54, 65, 66, 67, 68, 69, 70, 71, 72, 73, 55, 56, 57, 58, 59, 60, 61] (by decide +kernel) (by decide +kernel)
set_option maxRecDepth 20000 in
theorem gX3_total_X3_ownSum : GoodIn wsX3_total (wsV RX3 163 RX3 yX3_ownSum wsX3_ownSum) := goodIn_app (goodIn_of _ (by decide +kernel)) ggX3_total_X3_ownSum
theorem dX3_total_0 : decode cX3_total 0 = .ok (.lconst 0, 1) := by decide +kernel
theorem dX3_total_1 : decode cX3_total 1 = .ok (.lstore_n 1, 1) := by decide +kernel
theorem dX3_total_2 : decode cX3_total 2 = .ok (.iconst 0, 1) := by decide +kernel
theorem dX3_total_3 : decode cX3_total 3 = .ok (.istore_n 3, 1) := by decide +kernel
theorem dX3_total_4 : decode cX3_total 4 = .ok (.iload_n 3, 1) := by decide +kernel
theorem dX3_total_5 : decode cX3_total 5 = .ok (.aload_n 0, 1) := by decide +kernel
theorem dX3_total_6 : decode cX3_total 6 = .ok (.getfield 23, 3) := by decide +kernel
theorem dX3_total_9 : decode cX3_total 9 = .ok (.invokevirtual 98, 3) := by decide +kernel
theorem dX3_total_12 : decode cX3_total 12 = .ok (.if_icmp .ge 27, 3) := by decide +kernel
theorem dX3_total_15 : decode cX3_total 15 = .ok (.lload_n 1, 1) := by decide +kernel
theorem dX3_total_16 : decode cX3_total 16 = .ok (.aload_n 0, 1) := by decide +kernel
theorem dX3_total_17 : decode cX3_total 17 = .ok (.aload_n 0, 1) := by decide +kernel
theorem dX3_total_18 : decode cX3_total 18 = .ok (.getfield 23, 3) := by decide +kernel
theorem dX3_total_21 : decode cX3_total 21 = .ok (.iload_n 3, 1) := by decide +kernel
theorem dX3_total_22 : decode cX3_total 22 = .ok (.invokevirtual 101, 3) := by decide +kernel
theorem dX3_total_25 : decode cX3_total 25 = .ok (.checkcast 143, 3) := by decide +kernel
theorem dX3_total_28 : decode cX3_total 28 = .ok (.invokevirtual 163, 3) := by decide +kernel
theorem dX3_total_31 : decode cX3_total 31 = .ok (.ladd, 1) := by decide +kernel
theorem dX3_total_32 : decode cX3_total 32 = .ok (.lstore_n 1, 1) := by decide +kernel
theorem dX3_total_33 : decode cX3_total 33 = .ok (.iinc 3 1, 3) := by decide +kernel
theorem dX3_total_36 : decode cX3_total 36 = .ok (.goto (-32), 3) := by decide +kernel
theorem dX3_total_39 : decode cX3_total 39 = .ok (.lload_n 1, 1) := by decide +kernel
theorem dX3_total_40 : decode cX3_total 40 = .ok (.lreturn, 1) := by decide +kernel
set_option maxRecDepth 20000 in
theorem ggX3_dearest_X3_itemAt : GoodIn wsX3_dearest wsX3_itemAt := goodIn_ca (goodIn_r _ [8, 9, 10, 2, 3, 11, 12, 13, 14, 15, 16, 17, 18, 19, 20, 21, 22, 23, 24, 25, 26, 27, 28, 29, 30, 31, 32, 33, 72, 73, 74, 75, 76, 77, 78, 79, 80, 81] (by decide +kernel) (by decide +kernel)) (goodIn_sub (fun _ h => List.mem_cons_of_mem _ (List.mem_append_right _ h)) (by decide +kernel))
set_option maxRecDepth 20000 in
theorem gX3_dearest_X3_itemAt : GoodIn wsX3_dearest (wsV RX3 135 RX3 yX3_itemAt wsX3_itemAt) := goodIn_app (goodIn_of _ (by decide +kernel)) ggX3_dearest_X3_itemAt
set_option maxRecDepth 20000 in
theorem ggX3_dearest_Jx4a65c_size_8abf5 : GoodIn wsX3_dearest wsJx4a65c_size_8abf5 := goodIn_r _ [15, 16, 79, 80, 81] (by decide +kernel) (by decide +kernel)
set_option maxRecDepth 20000 in
theorem gX3_dearest_Jx4a65c_size_8abf5 : GoodIn wsX3_dearest (wsV RX3 98 RJx4a65c yJx4a65c_size_8abf5 wsJx4a65c_size_8abf5) := goodIn_app (goodIn_of _ (by decide +kernel)) ggX3_dearest_Jx4a65c_size_8abf5
set_option maxRecDepth 20000 in
theorem ggX3_dearest_Jx4a65c_get_915e3 : GoodIn wsX3_dearest wsJx4a65c_get_915e3 := goodIn_r _ [20, 16, 21, 22, 23, 24, 25, 26, 27, 28, 29, 30, 31, 14, 32, 33, 79, 80, 81] (by decide +kernel) (by decide +kernel)
set_option maxRecDepth 20000 in
theorem gX3_dearest_Jx4a65c_get_915e3 : GoodIn wsX3_dearest (wsV RX3 101 RJx4a65c yJx4a65c_get_915e3 wsJx4a65c_get_915e3) := goodIn_app (goodIn_of _ (by decide +kernel)) ggX3_dearest_Jx4a65c_get_915e3
set_option maxRecDepth 20000 in
theorem ggX3_dearest_X1_isLeaf : GoodIn wsX3_dearest wsX1_isLeaf := goodIn_r _ [38, 39, 82, 83, 84, 85, 86, 87] (by decide +kernel) (by decide +kernel)
set_option maxRecDepth 20000 in
theorem gX3_dearest_X1_isLeaf : GoodIn wsX3_dearest (wsV RX3 169 RX1 yX1_isLeaf wsX1_isLeaf) := goodIn_app (goodIn_of _ (by decide +kernel)) ggX3_dearest_X1_isLeaf
set_option maxRecDepth 20000 in
theorem ggX3_dearest_X1_standsUnder : GoodIn wsX3_dearest wsX1_standsUnder := goodIn_r _ [43, 44, 82, 83, 84, 85, 86, 87] (by decide +kernel) (by decide +kernel)
set_option maxRecDepth 20000 in
theorem gX3_dearest_X1_standsUnder : GoodIn wsX3_dearest (wsV RX3 159 RX1 yX1_standsUnder wsX1_standsUnder) := goodIn_app (goodIn_of _ (by decide +kernel)) ggX3_dearest_X1_standsUnder
set_option maxRecDepth 20000 in
theorem ggX3_dearest_X3_ownSum : GoodIn wsX3_dearest wsX3_ownSum := goodIn_r _ [48, 49, 50, 51, 52, 53, 54, 55, 56, 57, 37, 58, 59, 60, 61, 7, 62, 63, 64, 65, 66, 67, 68, 69, 70, 71, 82, 83, 84, 85, 86, 87, 88, 89, 90, 72, 73, 74, 75, 76, 77, 78] (by decide +kernel) (by decide +kernel)
set_option maxRecDepth 20000 in
theorem gX3_dearest_X3_ownSum : GoodIn wsX3_dearest (wsV RX3 163 RX3 yX3_ownSum wsX3_ownSum) := goodIn_app (goodIn_of _ (by decide +kernel)) ggX3_dearest_X3_ownSum
theorem dX3_dearest_0 : decode cX3_dearest 0 = .ok (.aload_n 0, 1) := by decide +kernel
theorem dX3_dearest_1 : decode cX3_dearest 1 = .ok (.iload_n 1, 1) := by decide +kernel
theorem dX3_dearest_2 : decode cX3_dearest 2 = .ok (.invokevirtual 135, 3) := by decide +kernel
theorem dX3_dearest_5 : decode cX3_dearest 5 = .ok (.astore_n 2, 1) := by decide +kernel
theorem dX3_dearest_6 : decode cX3_dearest 6 = .ok (.iconst (-1), 1) := by decide +kernel
theorem dX3_dearest_7 : decode cX3_dearest 7 = .ok (.istore_n 3, 1) := by decide +kernel
theorem dX3_dearest_8 : decode cX3_dearest 8 = .ok (.ldc2_w 167, 3) := by decide +kernel
theorem dX3_dearest_11 : decode cX3_dearest 11 = .ok (.lstore 4, 2) := by decide +kernel
theorem dX3_dearest_13 : decode cX3_dearest 13 = .ok (.iconst 0, 1) := by decide +kernel
theorem dX3_dearest_14 : decode cX3_dearest 14 = .ok (.istore 6, 2) := by decide +kernel
theorem dX3_dearest_16 : decode cX3_dearest 16 = .ok (.iload 6, 2) := by decide +kernel
theorem dX3_dearest_18 : decode cX3_dearest 18 = .ok (.aload_n 0, 1) := by decide +kernel
theorem dX3_dearest_19 : decode cX3_dearest 19 = .ok (.getfield 23, 3) := by decide +kernel
theorem dX3_dearest_22 : decode cX3_dearest 22 = .ok (.invokevirtual 98, 3) := by decide +kernel
theorem dX3_dearest_25 : decode cX3_dearest 25 = .ok (.if_icmp .ge 63, 3) := by decide +kernel
theorem dX3_dearest_28 : decode cX3_dearest 28 = .ok (.aload_n 0, 1) := by decide +kernel
theorem dX3_dearest_29 : decode cX3_dearest 29 = .ok (.getfield 23, 3) := by decide +kernel
theorem dX3_dearest_32 : decode cX3_dearest 32 = .ok (.iload 6, 2) := by decide +kernel
theorem dX3_dearest_34 : decode cX3_dearest 34 = .ok (.invokevirtual 101, 3) := by decide +kernel
theorem dX3_dearest_37 : decode cX3_dearest 37 = .ok (.checkcast 143, 3) := by decide +kernel
theorem dX3_dearest_40 : decode cX3_dearest 40 = .ok (.astore 7, 2) := by decide +kernel
theorem dX3_dearest_42 : decode cX3_dearest 42 = .ok (.aload 7, 2) := by decide +kernel
theorem dX3_dearest_44 : decode cX3_dearest 44 = .ok (.invokevirtual 169, 3) := by decide +kernel
theorem dX3_dearest_47 : decode cX3_dearest 47 = .ok (.ifCond .eq 35, 3) := by decide +kernel
theorem dX3_dearest_50 : decode cX3_dearest 50 = .ok (.aload 7, 2) := by decide +kernel
theorem dX3_dearest_52 : decode cX3_dearest 52 = .ok (.aload_n 2, 1) := by decide +kernel
theorem dX3_dearest_53 : decode cX3_dearest 53 = .ok (.invokevirtual 159, 3) := by decide +kernel
theorem dX3_dearest_56 : decode cX3_dearest 56 = .ok (.ifCond .eq 26, 3) := by decide +kernel
theorem dX3_dearest_59 : decode cX3_dearest 59 = .ok (.aload_n 0, 1) := by decide +kernel
theorem dX3_dearest_60 : decode cX3_dearest 60 = .ok (.aload 7, 2) := by decide +kernel
theorem dX3_dearest_62 : decode cX3_dearest 62 = .ok (.invokevirtual 163, 3) := by decide +kernel
theorem dX3_dearest_65 : decode cX3_dearest 65 = .ok (.lload 4, 2) := by decide +kernel
theorem dX3_dearest_67 : decode cX3_dearest 67 = .ok (.lcmp, 1) := by decide +kernel
theorem dX3_dearest_68 : decode cX3_dearest 68 = .ok (.ifCond .le 14, 3) := by decide +kernel
theorem dX3_dearest_71 : decode cX3_dearest 71 = .ok (.aload_n 0, 1) := by decide +kernel
theorem dX3_dearest_72 : decode cX3_dearest 72 = .ok (.aload 7, 2) := by decide +kernel
theorem dX3_dearest_74 : decode cX3_dearest 74 = .ok (.invokevirtual 163, 3) := by decide +kernel
theorem dX3_dearest_77 : decode cX3_dearest 77 = .ok (.lstore 4, 2) := by decide +kernel
theorem dX3_dearest_79 : decode cX3_dearest 79 = .ok (.iload 6, 2) := by decide +kernel
theorem dX3_dearest_81 : decode cX3_dearest 81 = .ok (.istore_n 3, 1) := by decide +kernel
theorem dX3_dearest_82 : decode cX3_dearest 82 = .ok (.iinc 6 1, 3) := by decide +kernel
theorem dX3_dearest_85 : decode cX3_dearest 85 = .ok (.goto (-69), 3) := by decide +kernel
theorem dX3_dearest_88 : decode cX3_dearest 88 = .ok (.iload_n 3, 1) := by decide +kernel
theorem dX3_dearest_89 : decode cX3_dearest 89 = .ok (.ireturn, 1) := by decide +kernel
set_option maxRecDepth 20000 in
theorem ggX3_done_X3_itemAt : GoodIn wsX3_done wsX3_itemAt := goodIn_ca (goodIn_r _ [6, 7, 8, 9, 10, 11, 12, 13, 14, 15, 16, 17, 18, 19, 20, 21, 22, 23, 24, 25, 26, 27, 28, 29, 30, 31, 32, 33, 56, 57, 58, 59, 60, 61, 62, 63, 64, 65] (by decide +kernel) (by decide +kernel)) (goodIn_sub (fun _ h => List.mem_cons_of_mem _ (List.mem_append_left _ (List.mem_append_left _ (List.mem_append_right _ h)))) (by decide +kernel))
set_option maxRecDepth 20000 in
theorem gX3_done_X3_itemAt : GoodIn wsX3_done (wsV RX3 135 RX3 yX3_itemAt wsX3_itemAt) := goodIn_app (goodIn_of _ (by decide +kernel)) ggX3_done_X3_itemAt
set_option maxRecDepth 20000 in
theorem ggX3_done_X3_checkRange : GoodIn wsX3_done wsX3_checkRange := goodIn_ca (goodIn_r _ [36, 37, 38] (by decide +kernel) (by decide +kernel)) (goodIn_sub (fun _ h => List.mem_cons_of_mem _ (List.mem_append_left _ (List.mem_append_right _ h))) (by decide +kernel))
set_option maxRecDepth 20000 in
theorem gX3_done_X3_checkRange : GoodIn wsX3_done (va_wsS RX3 41 yX3_checkRange wsX3_checkRange) := goodIn_app (goodIn_of _ (by decide +kernel)) ggX3_done_X3_checkRange
set_option maxRecDepth 20000 in
theorem ggX3_done_X3_checkLeaf : GoodIn wsX3_done wsX3_checkLeaf := goodIn_ca (goodIn_r _ [41, 42, 43, 44, 45, 46, 47, 48, 49, 50, 51, 52, 53, 54, 55] (by decide +kernel) (by decide +kernel)) (goodIn_sub (fun _ h => List.mem_cons_of_mem _ (List.mem_append_right _ h)) (by decide +kernel))
set_option maxRecDepth 20000 in
theorem gX3_done_X3_checkLeaf : GoodIn wsX3_done (va_wsS RX3 138 yX3_checkLeaf wsX3_checkLeaf) := goodIn_app (goodIn_of _ (by decide +kernel)) ggX3_done_X3_checkLeaf
theorem dX3_done_0 : decode cX3_done 0 = .ok (.aload_n 0, 1) := by decide +kernel
theorem dX3_done_1 : decode cX3_done 1 = .ok (.iload_n 1, 1) := by decide +kernel
theorem dX3_done_2 : decode cX3_done 2 = .ok (.invokevirtual 135, 3) := by decide +kernel
theorem dX3_done_5 : decode cX3_done 5 = .ok (.astore_n 3, 1) := by decide +kernel
theorem dX3_done_6 : decode cX3_done 6 = .ok (.iload_n 2, 1) := by decide +kernel
theorem dX3_done_7 : decode cX3_done 7 = .ok (.iconst 0, 1) := by decide +kernel
theorem dX3_done_8 : decode cX3_done 8 = .ok (.bipush 100, 2) := by decide +kernel
theorem dX3_done_10 : decode cX3_done 10 = .ok (.invokestatic 41, 3) := by decide +kernel
theorem dX3_done_13 : decode cX3_done 13 = .ok (.aload_n 3, 1) := by decide +kernel
theorem dX3_done_14 : decode cX3_done 14 = .ok (.invokestatic 138, 3) := by decide +kernel
theorem dX3_done_17 : decode cX3_done 17 = .ok (.aload_n 3, 1) := by decide +kernel
theorem dX3_done_18 : decode cX3_done 18 = .ok (.getfield 173, 3) := by decide +kernel
theorem dX3_done_21 : decode cX3_done 21 = .ok (.istore 4, 2) := by decide +kernel
theorem dX3_done_23 : decode cX3_done 23 = .ok (.aload_n 3, 1) := by decide +kernel
theorem dX3_done_24 : decode cX3_done 24 = .ok (.iload_n 2, 1) := by decide +kernel
theorem dX3_done_25 : decode cX3_done 25 = .ok (.putfield 173, 3) := by decide +kernel
theorem dX3_done_28 : decode cX3_done 28 = .ok (.iload 4, 2) := by decide +kernel
theorem dX3_done_30 : decode cX3_done 30 = .ok (.ireturn, 1) := by decide +kernel
set_option maxRecDepth 20000 in
theorem ggX3_retention_X3_checkRange : GoodIn wsX3_retention wsX3_checkRange := goodIn_ca (goodIn_r _ [5, 6, 7] (by decide +kernel) (by decide +kernel)) (goodIn_sub (fun _ h => List.mem_cons_of_mem _ (List.mem_append_right _ h)) (by decide +kernel))
set_option maxRecDepth 20000 in
theorem gX3_retention_X3_checkRange : GoodIn wsX3_retention (va_wsS RX3 41 yX3_checkRange wsX3_checkRange) := goodIn_app (goodIn_of _ (by decide +kernel)) ggX3_retention_X3_checkRange
theorem dX3_retention_0 : decode cX3_retention 0 = .ok (.iload_n 1, 1) := by decide +kernel
theorem dX3_retention_1 : decode cX3_retention 1 = .ok (.iconst 0, 1) := by decide +kernel
theorem dX3_retention_2 : decode cX3_retention 2 = .ok (.bipush 20, 2) := by decide +kernel
theorem dX3_retention_4 : decode cX3_retention 4 = .ok (.invokestatic 41, 3) := by decide +kernel
theorem dX3_retention_7 : decode cX3_retention 7 = .ok (.aload_n 0, 1) := by decide +kernel
theorem dX3_retention_8 : decode cX3_retention 8 = .ok (.getfield 34, 3) := by decide +kernel
theorem dX3_retention_11 : decode cX3_retention 11 = .ok (.istore_n 2, 1) := by decide +kernel
theorem dX3_retention_12 : decode cX3_retention 12 = .ok (.aload_n 0, 1) := by decide +kernel
theorem dX3_retention_13 : decode cX3_retention 13 = .ok (.iload_n 1, 1) := by decide +kernel
theorem dX3_retention_14 : decode cX3_retention 14 = .ok (.putfield 34, 3) := by decide +kernel
theorem dX3_retention_17 : decode cX3_retention 17 = .ok (.iload_n 2, 1) := by decide +kernel
theorem dX3_retention_18 : decode cX3_retention 18 = .ok (.ireturn, 1) := by decide +kernel
set_option maxRecDepth 20000 in
theorem ggX3_worth_Jx4a65c_size_8abf5 : GoodIn wsX3_worth wsJx4a65c_size_8abf5 := goodIn_r _ [9, 10, 69, 70, 71] (by decide +kernel) (by decide +kernel)
set_option maxRecDepth 20000 in
theorem gX3_worth_Jx4a65c_size_8abf5 : GoodIn wsX3_worth (wsV RX3 98 RJx4a65c yJx4a65c_size_8abf5 wsJx4a65c_size_8abf5) := goodIn_app (goodIn_of _ (by decide +kernel)) ggX3_worth_Jx4a65c_size_8abf5
set_option maxRecDepth 20000 in
theorem ggX3_worth_Jx4a65c_get_915e3 : GoodIn wsX3_worth wsJx4a65c_get_915e3 := goodIn_r _ [14, 10, 15, 16, 17, 18, 19, 20, 21, 22, 23, 24, 25, 8, 26, 27, 69, 70, 71] (by decide +kernel) (by decide +kernel)
set_option maxRecDepth 20000 in
theorem gX3_worth_Jx4a65c_get_915e3 : GoodIn wsX3_worth (wsV RX3 101 RJx4a65c yJx4a65c_get_915e3 wsJx4a65c_get_915e3) := goodIn_app (goodIn_of _ (by decide +kernel)) ggX3_worth_Jx4a65c_get_915e3
set_option maxRecDepth 20000 in
theorem ggX3_worth_X3_ownSum : GoodIn wsX3_worth wsX3_ownSum := goodIn_r _ [32, 33, 34, 35, 36, 37, 38, 39, 40, 41, 42, 43, 44, 45, 46, 31, 47, 4, 48, 49, 50, 51, 52, 53, 54, 55, 63, 64, 65, 66, 67, 68, 72, 73, 74, 56, 57, 58, 59, 60, 61, 62] (by decide +kernel) (by decide +kernel)
set_option maxRecDepth 20000 in
theorem gX3_worth_X3_ownSum : GoodIn wsX3_worth (wsV RX3 163 RX3 yX3_ownSum wsX3_ownSum) := goodIn_app (goodIn_of _ (by decide +kernel)) ggX3_worth_X3_ownSum
theorem dX3_worth_0 : decode cX3_worth 0 = .ok (.lconst 0, 1) := by decide +kernel
theorem dX3_worth_1 : decode cX3_worth 1 = .ok (.lstore_n 1, 1) := by decide +kernel
theorem dX3_worth_2 : decode cX3_worth 2 = .ok (.iconst 0, 1) := by decide +kernel
theorem dX3_worth_3 : decode cX3_worth 3 = .ok (.istore_n 3, 1) := by decide +kernel
theorem dX3_worth_4 : decode cX3_worth 4 = .ok (.iload_n 3, 1) := by decide +kernel
theorem dX3_worth_5 : decode cX3_worth 5 = .ok (.aload_n 0, 1) := by decide +kernel
theorem dX3_worth_6 : decode cX3_worth 6 = .ok (.getfield 23, 3) := by decide +kernel
theorem dX3_worth_9 : decode cX3_worth 9 = .ok (.invokevirtual 98, 3) := by decide +kernel
theorem dX3_worth_12 : decode cX3_worth 12 = .ok (.if_icmp .ge 42, 3) := by decide +kernel
theorem dX3_worth_15 : decode cX3_worth 15 = .ok (.aload_n 0, 1) := by decide +kernel
theorem dX3_worth_16 : decode cX3_worth 16 = .ok (.getfield 23, 3) := by decide +kernel
theorem dX3_worth_19 : decode cX3_worth 19 = .ok (.iload_n 3, 1) := by decide +kernel
theorem dX3_worth_20 : decode cX3_worth 20 = .ok (.invokevirtual 101, 3) := by decide +kernel
theorem dX3_worth_23 : decode cX3_worth 23 = .ok (.checkcast 143, 3) := by decide +kernel
theorem dX3_worth_26 : decode cX3_worth 26 = .ok (.astore 4, 2) := by decide +kernel
theorem dX3_worth_28 : decode cX3_worth 28 = .ok (.lload_n 1, 1) := by decide +kernel
theorem dX3_worth_29 : decode cX3_worth 29 = .ok (.aload_n 0, 1) := by decide +kernel
theorem dX3_worth_30 : decode cX3_worth 30 = .ok (.aload 4, 2) := by decide +kernel
theorem dX3_worth_32 : decode cX3_worth 32 = .ok (.invokevirtual 163, 3) := by decide +kernel
theorem dX3_worth_35 : decode cX3_worth 35 = .ok (.aload 4, 2) := by decide +kernel
theorem dX3_worth_37 : decode cX3_worth 37 = .ok (.getfield 173, 3) := by decide +kernel
theorem dX3_worth_40 : decode cX3_worth 40 = .ok (.i2l, 1) := by decide +kernel
theorem dX3_worth_41 : decode cX3_worth 41 = .ok (.lmul, 1) := by decide +kernel
theorem dX3_worth_42 : decode cX3_worth 42 = .ok (.ldc2_w 176, 3) := by decide +kernel
theorem dX3_worth_45 : decode cX3_worth 45 = .ok (.ldiv, 1) := by decide +kernel
theorem dX3_worth_46 : decode cX3_worth 46 = .ok (.ladd, 1) := by decide +kernel
theorem dX3_worth_47 : decode cX3_worth 47 = .ok (.lstore_n 1, 1) := by decide +kernel
theorem dX3_worth_48 : decode cX3_worth 48 = .ok (.iinc 3 1, 3) := by decide +kernel
theorem dX3_worth_51 : decode cX3_worth 51 = .ok (.goto (-47), 3) := by decide +kernel
theorem dX3_worth_54 : decode cX3_worth 54 = .ok (.lload_n 1, 1) := by decide +kernel
theorem dX3_worth_55 : decode cX3_worth 55 = .ok (.lreturn, 1) := by decide +kernel
set_option maxRecDepth 20000 in
theorem ggX3_due_X3_worth : GoodIn wsX3_due wsX3_worth := goodIn_r _ [6, 7, 8, 9, 10, 11, 12, 13, 14, 15, 16, 17, 18, 19, 20, 21, 22, 23, 24, 25, 26, 27, 28, 29, 30, 31, 32, 33, 34, 35, 36, 5, 37, 38, 39, 40, 41, 42, 43, 44, 45, 46, 47, 48, 49, 50, 51, 52, 53, 54, 55, 56, 57, 58, 59, 60, 62, 63, 64, 65, 66, 67, 68, 69, 70, 71, 72, 73, 74, 75, 76, 77, 78, 79, 80] (by decide +kernel) (by decide +kernel)
set_option maxRecDepth 20000 in
theorem gX3_due_X3_worth : GoodIn wsX3_due (wsV RX3 178 RX3 yX3_worth wsX3_worth) := goodIn_app (goodIn_of _ (by decide +kernel)) ggX3_due_X3_worth
set_option maxRecDepth 20000 in
theorem ggX3_due_X3_hundredthsRoundedUp : GoodIn wsX3_due wsX3_hundredthsRoundedUp := goodIn_r _ [52, 10] (by decide +kernel) (by decide +kernel)
set_option maxRecDepth 20000 in
theorem gX3_due_X3_hundredthsRoundedUp : GoodIn wsX3_due (va_wsS RX3 181 yX3_hundredthsRoundedUp wsX3_hundredthsRoundedUp) := goodIn_app (goodIn_of _ (by decide +kernel)) ggX3_due_X3_hundredthsRoundedUp
theorem dX3_due_0 : decode cX3_due 0 = .ok (.aload_n 0, 1) := by decide +kernel
theorem dX3_due_1 : decode cX3_due 1 = .ok (.invokevirtual 178, 3) := by decide +kernel
theorem dX3_due_4 : decode cX3_due 4 = .ok (.lstore_n 1, 1) := by decide +kernel
theorem dX3_due_5 : decode cX3_due 5 = .ok (.lload_n 1, 1) := by decide +kernel
theorem dX3_due_6 : decode cX3_due 6 = .ok (.lload_n 1, 1) := by decide +kernel
theorem dX3_due_7 : decode cX3_due 7 = .ok (.aload_n 0, 1) := by decide +kernel
theorem dX3_due_8 : decode cX3_due 8 = .ok (.getfield 34, 3) := by decide +kernel
theorem dX3_due_11 : decode cX3_due 11 = .ok (.i2l, 1) := by decide +kernel
theorem dX3_due_12 : decode cX3_due 12 = .ok (.lmul, 1) := by decide +kernel
theorem dX3_due_13 : decode cX3_due 13 = .ok (.invokestatic 181, 3) := by decide +kernel
theorem dX3_due_16 : decode cX3_due 16 = .ok (.lsub, 1) := by decide +kernel
theorem dX3_due_17 : decode cX3_due 17 = .ok (.lreturn, 1) := by decide +kernel
set_option maxRecDepth 20000 in
theorem ggX3_claim_X3_due : GoodIn wsX3_claim wsX3_due := goodIn_r _ [8, 9, 10, 11, 12, 7, 13, 14, 15, 16, 17, 18, 19, 20, 21, 22, 23, 24, 25, 26, 27, 28, 29, 30, 31, 32, 33, 34, 35, 36, 37, 38, 39, 40, 41, 42, 43, 44, 45, 46, 47, 48, 49, 50, 51, 52, 53, 54, 55, 56, 57, 58, 59, 60, 61, 62, 63, 64, 65, 66, 67, 68, 69, 70, 71, 72, 73, 74, 75, 76, 77, 78, 79, 80, 81, 82, 83, 84, 85, 86, 87] (by decide +kernel) (by decide +kernel)
set_option maxRecDepth 20000 in
theorem gX3_claim_X3_due : GoodIn wsX3_claim (wsV RX3 185 RX3 yX3_due wsX3_due) := goodIn_app (goodIn_of _ (by decide +kernel)) ggX3_claim_X3_due
theorem dX3_claim_0 : decode cX3_claim 0 = .ok (.aload_n 0, 1) := by decide +kernel
theorem dX3_claim_1 : decode cX3_claim 1 = .ok (.invokevirtual 185, 3) := by decide +kernel
theorem dX3_claim_4 : decode cX3_claim 4 = .ok (.aload_n 0, 1) := by decide +kernel
theorem dX3_claim_5 : decode cX3_claim 5 = .ok (.getfield 37, 3) := by decide +kernel
theorem dX3_claim_8 : decode cX3_claim 8 = .ok (.lsub, 1) := by decide +kernel
theorem dX3_claim_9 : decode cX3_claim 9 = .ok (.lstore_n 1, 1) := by decide +kernel
theorem dX3_claim_10 : decode cX3_claim 10 = .ok (.lload_n 1, 1) := by decide +kernel
theorem dX3_claim_11 : decode cX3_claim 11 = .ok (.lconst 0, 1) := by decide +kernel
theorem dX3_claim_12 : decode cX3_claim 12 = .ok (.lcmp, 1) := by decide +kernel
theorem dX3_claim_13 : decode cX3_claim 13 = .ok (.ifCond .gt 13, 3) := by decide +kernel
theorem dX3_claim_16 : decode cX3_claim 16 = .ok (.new 56, 3) := by decide +kernel
theorem dX3_claim_19 : decode cX3_claim 19 = .ok (.dup, 1) := by decide +kernel
theorem dX3_claim_20 : decode cX3_claim 20 = .ok (.ldc 188, 2) := by decide +kernel
theorem dX3_claim_22 : decode cX3_claim 22 = .ok (.invokespecial 60, 3) := by decide +kernel
theorem dX3_claim_25 : decode cX3_claim 25 = .ok (.athrow, 1) := by decide +kernel
theorem dX3_claim_26 : decode cX3_claim 26 = .ok (.aload_n 0, 1) := by decide +kernel
theorem dX3_claim_27 : decode cX3_claim 27 = .ok (.dup, 1) := by decide +kernel
theorem dX3_claim_28 : decode cX3_claim 28 = .ok (.getfield 37, 3) := by decide +kernel
theorem dX3_claim_31 : decode cX3_claim 31 = .ok (.lload_n 1, 1) := by decide +kernel
theorem dX3_claim_32 : decode cX3_claim 32 = .ok (.ladd, 1) := by decide +kernel
theorem dX3_claim_33 : decode cX3_claim 33 = .ok (.putfield 37, 3) := by decide +kernel
theorem dX3_claim_36 : decode cX3_claim 36 = .ok (.lload_n 1, 1) := by decide +kernel
theorem dX3_claim_37 : decode cX3_claim 37 = .ok (.lreturn, 1) := by decide +kernel
theorem dX3_claimed_0 : decode cX3_claimed 0 = .ok (.aload_n 0, 1) := by decide +kernel
theorem dX3_claimed_1 : decode cX3_claimed 1 = .ok (.getfield 37, 3) := by decide +kernel
theorem dX3_claimed_4 : decode cX3_claimed 4 = .ok (.lreturn, 1) := by decide +kernel
theorem dX3_checkRange_0 : decode cX3_checkRange 0 = .ok (.iload_n 0, 1) := by decide +kernel
theorem dX3_checkRange_1 : decode cX3_checkRange 1 = .ok (.iload_n 1, 1) := by decide +kernel
theorem dX3_checkRange_2 : decode cX3_checkRange 2 = .ok (.if_icmp .lt 8, 3) := by decide +kernel
theorem dX3_checkRange_5 : decode cX3_checkRange 5 = .ok (.iload_n 0, 1) := by decide +kernel
theorem dX3_checkRange_6 : decode cX3_checkRange 6 = .ok (.iload_n 2, 1) := by decide +kernel
theorem dX3_checkRange_7 : decode cX3_checkRange 7 = .ok (.if_icmp .le 13, 3) := by decide +kernel
theorem dX3_checkRange_10 : decode cX3_checkRange 10 = .ok (.new 190, 3) := by decide +kernel
theorem dX3_checkRange_13 : decode cX3_checkRange 13 = .ok (.dup, 1) := by decide +kernel
theorem dX3_checkRange_14 : decode cX3_checkRange 14 = .ok (.ldc 192, 2) := by decide +kernel
theorem dX3_checkRange_16 : decode cX3_checkRange 16 = .ok (.invokespecial 194, 3) := by decide +kernel
theorem dX3_checkRange_19 : decode cX3_checkRange 19 = .ok (.athrow, 1) := by decide +kernel
theorem dX3_checkRange_20 : decode cX3_checkRange 20 = .ok (.return_, 1) := by decide +kernel
theorem dX3_checkClosed_0 : decode cX3_checkClosed 0 = .ok (.aload_n 0, 1) := by decide +kernel
theorem dX3_checkClosed_1 : decode cX3_checkClosed 1 = .ok (.getfield 10, 3) := by decide +kernel
theorem dX3_checkClosed_4 : decode cX3_checkClosed 4 = .ok (.getfield 53, 3) := by decide +kernel
theorem dX3_checkClosed_7 : decode cX3_checkClosed 7 = .ok (.ifCond .ne 13, 3) := by decide +kernel
theorem dX3_checkClosed_10 : decode cX3_checkClosed 10 = .ok (.new 56, 3) := by decide +kernel
theorem dX3_checkClosed_13 : decode cX3_checkClosed 13 = .ok (.dup, 1) := by decide +kernel
theorem dX3_checkClosed_14 : decode cX3_checkClosed 14 = .ok (.ldc 195, 2) := by decide +kernel
theorem dX3_checkClosed_16 : decode cX3_checkClosed 16 = .ok (.invokespecial 60, 3) := by decide +kernel
theorem dX3_checkClosed_19 : decode cX3_checkClosed 19 = .ok (.athrow, 1) := by decide +kernel
theorem dX3_checkClosed_20 : decode cX3_checkClosed 20 = .ok (.return_, 1) := by decide +kernel
set_option maxRecDepth 20000 in
theorem ggX3_checkLeaf_X1_isLeaf : GoodIn wsX3_checkLeaf wsX1_isLeaf := goodIn_r _ [7, 8, 9, 10, 11, 12, 13, 14] (by decide +kernel) (by decide +kernel)
set_option maxRecDepth 20000 in
theorem gX3_checkLeaf_X1_isLeaf : GoodIn wsX3_checkLeaf (wsV RX3 169 RX1 yX1_isLeaf wsX1_isLeaf) := goodIn_app (goodIn_of _ (by decide +kernel)) ggX3_checkLeaf_X1_isLeaf
theorem dX3_checkLeaf_0 : decode cX3_checkLeaf 0 = .ok (.aload_n 0, 1) := by decide +kernel
theorem dX3_checkLeaf_1 : decode cX3_checkLeaf 1 = .ok (.invokevirtual 169, 3) := by decide +kernel
theorem dX3_checkLeaf_4 : decode cX3_checkLeaf 4 = .ok (.ifCond .ne 13, 3) := by decide +kernel
theorem dX3_checkLeaf_7 : decode cX3_checkLeaf 7 = .ok (.new 56, 3) := by decide +kernel
theorem dX3_checkLeaf_10 : decode cX3_checkLeaf 10 = .ok (.dup, 1) := by decide +kernel
theorem dX3_checkLeaf_11 : decode cX3_checkLeaf 11 = .ok (.ldc 197, 2) := by decide +kernel
theorem dX3_checkLeaf_13 : decode cX3_checkLeaf 13 = .ok (.invokespecial 60, 3) := by decide +kernel
theorem dX3_checkLeaf_16 : decode cX3_checkLeaf 16 = .ok (.athrow, 1) := by decide +kernel
theorem dX3_checkLeaf_17 : decode cX3_checkLeaf 17 = .ok (.return_, 1) := by decide +kernel
set_option maxRecDepth 20000 in
theorem ggX3_itemAt_Jx4a65c_size_8abf5 : GoodIn wsX3_itemAt wsJx4a65c_size_8abf5 := goodIn_r _ [9, 10, 35, 36, 37] (by decide +kernel) (by decide +kernel)
set_option maxRecDepth 20000 in
theorem gX3_itemAt_Jx4a65c_size_8abf5 : GoodIn wsX3_itemAt (wsV RX3 98 RJx4a65c yJx4a65c_size_8abf5 wsJx4a65c_size_8abf5) := goodIn_app (goodIn_of _ (by decide +kernel)) ggX3_itemAt_Jx4a65c_size_8abf5
set_option maxRecDepth 20000 in
theorem ggX3_itemAt_Jx4a65c_get_915e3 : GoodIn wsX3_itemAt wsJx4a65c_get_915e3 := goodIn_r _ [14, 10, 15, 16, 17, 18, 19, 20, 21, 22, 23, 24, 25, 8, 26, 27, 35, 36, 37] (by decide +kernel) (by decide +kernel)
set_option maxRecDepth 20000 in
theorem gX3_itemAt_Jx4a65c_get_915e3 : GoodIn wsX3_itemAt (wsV RX3 101 RJx4a65c yJx4a65c_get_915e3 wsJx4a65c_get_915e3) := goodIn_app (goodIn_of _ (by decide +kernel)) ggX3_itemAt_Jx4a65c_get_915e3
theorem dX3_itemAt_0 : decode cX3_itemAt 0 = .ok (.iload_n 1, 1) := by decide +kernel
theorem dX3_itemAt_1 : decode cX3_itemAt 1 = .ok (.ifCond .lt 14, 3) := by decide +kernel
theorem dX3_itemAt_4 : decode cX3_itemAt 4 = .ok (.iload_n 1, 1) := by decide +kernel
theorem dX3_itemAt_5 : decode cX3_itemAt 5 = .ok (.aload_n 0, 1) := by decide +kernel
theorem dX3_itemAt_6 : decode cX3_itemAt 6 = .ok (.getfield 23, 3) := by decide +kernel
theorem dX3_itemAt_9 : decode cX3_itemAt 9 = .ok (.invokevirtual 98, 3) := by decide +kernel
theorem dX3_itemAt_12 : decode cX3_itemAt 12 = .ok (.if_icmp .lt 13, 3) := by decide +kernel
theorem dX3_itemAt_15 : decode cX3_itemAt 15 = .ok (.new 67, 3) := by decide +kernel
theorem dX3_itemAt_18 : decode cX3_itemAt 18 = .ok (.dup, 1) := by decide +kernel
theorem dX3_itemAt_19 : decode cX3_itemAt 19 = .ok (.ldc 199, 2) := by decide +kernel
theorem dX3_itemAt_21 : decode cX3_itemAt 21 = .ok (.invokespecial 71, 3) := by decide +kernel
theorem dX3_itemAt_24 : decode cX3_itemAt 24 = .ok (.athrow, 1) := by decide +kernel
theorem dX3_itemAt_25 : decode cX3_itemAt 25 = .ok (.aload_n 0, 1) := by decide +kernel
theorem dX3_itemAt_26 : decode cX3_itemAt 26 = .ok (.getfield 23, 3) := by decide +kernel
theorem dX3_itemAt_29 : decode cX3_itemAt 29 = .ok (.iload_n 1, 1) := by decide +kernel
theorem dX3_itemAt_30 : decode cX3_itemAt 30 = .ok (.invokevirtual 101, 3) := by decide +kernel
theorem dX3_itemAt_33 : decode cX3_itemAt 33 = .ok (.checkcast 143, 3) := by decide +kernel
theorem dX3_itemAt_36 : decode cX3_itemAt 36 = .ok (.areturn, 1) := by decide +kernel
set_option maxRecDepth 20000 in
theorem ggX3_parentAt_X3_itemAt : GoodIn wsX3_parentAt wsX3_itemAt := goodIn_ca (goodIn_r _ [5, 6, 7, 8, 9, 10, 11, 12, 13, 14, 15, 16, 17, 18, 19, 20, 21, 22, 23, 24, 25, 26, 27, 28, 29, 30, 31, 32, 33, 34, 35, 36, 37, 38, 39, 40, 41, 42] (by decide +kernel) (by decide +kernel)) (goodIn_sub (fun _ h => List.mem_cons_of_mem _ (List.mem_append_right _ h)) (by decide +kernel))
set_option maxRecDepth 20000 in
theorem gX3_parentAt_X3_itemAt : GoodIn wsX3_parentAt (wsV RX3 135 RX3 yX3_itemAt wsX3_itemAt) := goodIn_app (goodIn_of _ (by decide +kernel)) ggX3_parentAt_X3_itemAt
theorem dX3_parentAt_0 : decode cX3_parentAt 0 = .ok (.iload_n 1, 1) := by decide +kernel
theorem dX3_parentAt_1 : decode cX3_parentAt 1 = .ok (.iconst (-1), 1) := by decide +kernel
theorem dX3_parentAt_2 : decode cX3_parentAt 2 = .ok (.if_icmp .ne 7, 3) := by decide +kernel
theorem dX3_parentAt_5 : decode cX3_parentAt 5 = .ok (.aconst_null, 1) := by decide +kernel
theorem dX3_parentAt_6 : decode cX3_parentAt 6 = .ok (.goto 8, 3) := by decide +kernel
theorem dX3_parentAt_9 : decode cX3_parentAt 9 = .ok (.aload_n 0, 1) := by decide +kernel
theorem dX3_parentAt_10 : decode cX3_parentAt 10 = .ok (.iload_n 1, 1) := by decide +kernel
theorem dX3_parentAt_11 : decode cX3_parentAt 11 = .ok (.invokevirtual 135, 3) := by decide +kernel
theorem dX3_parentAt_14 : decode cX3_parentAt 14 = .ok (.areturn, 1) := by decide +kernel
set_option maxRecDepth 20000 in
theorem ggX3_rateAt_Jx4a65c_size_8abf5 : GoodIn wsX3_rateAt wsJx4a65c_size_8abf5 := goodIn_r _ [9, 10, 35, 36, 37] (by decide +kernel) (by decide +kernel)
set_option maxRecDepth 20000 in
theorem gX3_rateAt_Jx4a65c_size_8abf5 : GoodIn wsX3_rateAt (wsV RX3 98 RJx4a65c yJx4a65c_size_8abf5 wsJx4a65c_size_8abf5) := goodIn_app (goodIn_of _ (by decide +kernel)) ggX3_rateAt_Jx4a65c_size_8abf5
set_option maxRecDepth 20000 in
theorem ggX3_rateAt_Jx4a65c_get_915e3 : GoodIn wsX3_rateAt wsJx4a65c_get_915e3 := goodIn_r _ [14, 10, 15, 16, 17, 18, 19, 20, 21, 22, 23, 24, 25, 8, 26, 27, 35, 36, 37] (by decide +kernel) (by decide +kernel)
set_option maxRecDepth 20000 in
theorem gX3_rateAt_Jx4a65c_get_915e3 : GoodIn wsX3_rateAt (wsV RX3 101 RJx4a65c yJx4a65c_get_915e3 wsJx4a65c_get_915e3) := goodIn_app (goodIn_of _ (by decide +kernel)) ggX3_rateAt_Jx4a65c_get_915e3
theorem dX3_rateAt_0 : decode cX3_rateAt 0 = .ok (.iload_n 1, 1) := by decide +kernel
theorem dX3_rateAt_1 : decode cX3_rateAt 1 = .ok (.ifCond .lt 14, 3) := by decide +kernel
theorem dX3_rateAt_4 : decode cX3_rateAt 4 = .ok (.iload_n 1, 1) := by decide +kernel
theorem dX3_rateAt_5 : decode cX3_rateAt 5 = .ok (.aload_n 0, 1) := by decide +kernel
theorem dX3_rateAt_6 : decode cX3_rateAt 6 = .ok (.getfield 19, 3) := by decide +kernel
theorem dX3_rateAt_9 : decode cX3_rateAt 9 = .ok (.invokevirtual 98, 3) := by decide +kernel
theorem dX3_rateAt_12 : decode cX3_rateAt 12 = .ok (.if_icmp .lt 13, 3) := by decide +kernel
theorem dX3_rateAt_15 : decode cX3_rateAt 15 = .ok (.new 67, 3) := by decide +kernel
theorem dX3_rateAt_18 : decode cX3_rateAt 18 = .ok (.dup, 1) := by decide +kernel
theorem dX3_rateAt_19 : decode cX3_rateAt 19 = .ok (.ldc 201, 2) := by decide +kernel
theorem dX3_rateAt_21 : decode cX3_rateAt 21 = .ok (.invokespecial 71, 3) := by decide +kernel
theorem dX3_rateAt_24 : decode cX3_rateAt 24 = .ok (.athrow, 1) := by decide +kernel
theorem dX3_rateAt_25 : decode cX3_rateAt 25 = .ok (.aload_n 0, 1) := by decide +kernel
theorem dX3_rateAt_26 : decode cX3_rateAt 26 = .ok (.getfield 19, 3) := by decide +kernel
theorem dX3_rateAt_29 : decode cX3_rateAt 29 = .ok (.iload_n 1, 1) := by decide +kernel
theorem dX3_rateAt_30 : decode cX3_rateAt 30 = .ok (.invokevirtual 101, 3) := by decide +kernel
theorem dX3_rateAt_33 : decode cX3_rateAt 33 = .ok (.checkcast 105, 3) := by decide +kernel
theorem dX3_rateAt_36 : decode cX3_rateAt 36 = .ok (.areturn, 1) := by decide +kernel
set_option maxRecDepth 20000 in
theorem ggX3_addItem_X1_isLeaf : GoodIn wsX3_addItem wsX1_isLeaf := goodIn_r _ [10, 11, 87, 88, 89, 90, 91, 92] (by decide +kernel) (by decide +kernel)
set_option maxRecDepth 20000 in
theorem gX3_addItem_X1_isLeaf : GoodIn wsX3_addItem (wsV RX3 169 RX1 yX1_isLeaf wsX1_isLeaf) := goodIn_app (goodIn_of _ (by decide +kernel)) ggX3_addItem_X1_isLeaf
set_option maxRecDepth 20000 in
theorem ggX3_addItem_Jx4a65c_size_8abf5 : GoodIn wsX3_addItem wsJx4a65c_size_8abf5 := goodIn_r _ [16, 17, 93, 94, 95] (by decide +kernel) (by decide +kernel)
set_option maxRecDepth 20000 in
theorem gX3_addItem_Jx4a65c_size_8abf5 : GoodIn wsX3_addItem (wsV RX3 98 RJx4a65c yJx4a65c_size_8abf5 wsJx4a65c_size_8abf5) := goodIn_app (goodIn_of _ (by decide +kernel)) ggX3_addItem_Jx4a65c_size_8abf5
set_option maxRecDepth 20000 in
theorem ggX3_addItem_X1_init : GoodIn wsX3_addItem wsX1_init := goodIn_r _ [20, 21, 22, 23, 24, 11, 25, 87, 88, 89, 90, 91, 92] (by decide +kernel) (by decide +kernel)
set_option maxRecDepth 20000 in
theorem gX3_addItem_X1_init : GoodIn wsX3_addItem (wsX1_init) := ggX3_addItem_X1_init
set_option maxRecDepth 20000 in
theorem ggX3_addItem_Jx4a65c_add_9ea2d : GoodIn wsX3_addItem wsJx4a65c_add_9ea2d := goodIn_r _ [29, 30, 31, 32, 17, 33, 34, 35, 15, 36, 37, 38, 39, 40, 41, 42, 43, 44, 45, 46, 47, 48, 49, 50, 51, 52, 53, 54, 55, 56, 57, 58, 59, 60, 61, 62, 63, 64, 65, 66, 67, 68, 69, 70, 71, 72, 73, 74, 75, 76, 77, 78, 79, 93, 94, 95] (by decide +kernel) (by decide +kernel)
set_option maxRecDepth 20000 in
theorem gX3_addItem_Jx4a65c_add_9ea2d : GoodIn wsX3_addItem (wsV RX3 115 RJx4a65c yJx4a65c_add_9ea2d wsJx4a65c_add_9ea2d) := goodIn_app (goodIn_of _ (by decide +kernel)) ggX3_addItem_Jx4a65c_add_9ea2d
theorem dX3_addItem_0 : decode cX3_addItem 0 = .ok (.aload_n 1, 1) := by decide +kernel
theorem dX3_addItem_1 : decode cX3_addItem 1 = .ok (.ifnull 20, 3) := by decide +kernel
theorem dX3_addItem_4 : decode cX3_addItem 4 = .ok (.aload_n 1, 1) := by decide +kernel
theorem dX3_addItem_5 : decode cX3_addItem 5 = .ok (.invokevirtual 169, 3) := by decide +kernel
theorem dX3_addItem_8 : decode cX3_addItem 8 = .ok (.ifCond .eq 13, 3) := by decide +kernel
theorem dX3_addItem_11 : decode cX3_addItem 11 = .ok (.new 56, 3) := by decide +kernel
theorem dX3_addItem_14 : decode cX3_addItem 14 = .ok (.dup, 1) := by decide +kernel
theorem dX3_addItem_15 : decode cX3_addItem 15 = .ok (.ldc 203, 2) := by decide +kernel
theorem dX3_addItem_17 : decode cX3_addItem 17 = .ok (.invokespecial 60, 3) := by decide +kernel
theorem dX3_addItem_20 : decode cX3_addItem 20 = .ok (.athrow, 1) := by decide +kernel
theorem dX3_addItem_21 : decode cX3_addItem 21 = .ok (.aload_n 0, 1) := by decide +kernel
theorem dX3_addItem_22 : decode cX3_addItem 22 = .ok (.getfield 23, 3) := by decide +kernel
theorem dX3_addItem_25 : decode cX3_addItem 25 = .ok (.invokevirtual 98, 3) := by decide +kernel
theorem dX3_addItem_28 : decode cX3_addItem 28 = .ok (.bipush 30, 2) := by decide +kernel
theorem dX3_addItem_30 : decode cX3_addItem 30 = .ok (.if_icmp .lt 13, 3) := by decide +kernel
theorem dX3_addItem_33 : decode cX3_addItem 33 = .ok (.new 56, 3) := by decide +kernel
theorem dX3_addItem_36 : decode cX3_addItem 36 = .ok (.dup, 1) := by decide +kernel
theorem dX3_addItem_37 : decode cX3_addItem 37 = .ok (.ldc 205, 2) := by decide +kernel
theorem dX3_addItem_39 : decode cX3_addItem 39 = .ok (.invokespecial 60, 3) := by decide +kernel
theorem dX3_addItem_42 : decode cX3_addItem 42 = .ok (.athrow, 1) := by decide +kernel
theorem dX3_addItem_43 : decode cX3_addItem 43 = .ok (.aload_n 0, 1) := by decide +kernel
theorem dX3_addItem_44 : decode cX3_addItem 44 = .ok (.getfield 23, 3) := by decide +kernel
theorem dX3_addItem_47 : decode cX3_addItem 47 = .ok (.new 143, 3) := by decide +kernel
theorem dX3_addItem_50 : decode cX3_addItem 50 = .ok (.dup, 1) := by decide +kernel
theorem dX3_addItem_51 : decode cX3_addItem 51 = .ok (.aload_n 1, 1) := by decide +kernel
theorem dX3_addItem_52 : decode cX3_addItem 52 = .ok (.aload_n 2, 1) := by decide +kernel
theorem dX3_addItem_53 : decode cX3_addItem 53 = .ok (.iload_n 3, 1) := by decide +kernel
theorem dX3_addItem_54 : decode cX3_addItem 54 = .ok (.invokespecial 207, 3) := by decide +kernel
theorem dX3_addItem_57 : decode cX3_addItem 57 = .ok (.invokevirtual 115, 3) := by decide +kernel
theorem dX3_addItem_60 : decode cX3_addItem 60 = .ok (.pop, 1) := by decide +kernel
theorem dX3_addItem_61 : decode cX3_addItem 61 = .ok (.aload_n 0, 1) := by decide +kernel
theorem dX3_addItem_62 : decode cX3_addItem 62 = .ok (.getfield 23, 3) := by decide +kernel
theorem dX3_addItem_65 : decode cX3_addItem 65 = .ok (.invokevirtual 98, 3) := by decide +kernel
theorem dX3_addItem_68 : decode cX3_addItem 68 = .ok (.iconst 1, 1) := by decide +kernel
theorem dX3_addItem_69 : decode cX3_addItem 69 = .ok (.isub, 1) := by decide +kernel
theorem dX3_addItem_70 : decode cX3_addItem 70 = .ok (.ireturn, 1) := by decide +kernel
theorem dX3_priceOf_0 : decode cX3_priceOf 0 = .ok (.aload_n 1, 1) := by decide +kernel
theorem dX3_priceOf_1 : decode cX3_priceOf 1 = .ok (.getfield 210, 3) := by decide +kernel
theorem dX3_priceOf_4 : decode cX3_priceOf 4 = .ok (.aload_n 0, 1) := by decide +kernel
theorem dX3_priceOf_5 : decode cX3_priceOf 5 = .ok (.getfield 26, 3) := by decide +kernel
theorem dX3_priceOf_8 : decode cX3_priceOf 8 = .ok (.iconst 0, 1) := by decide +kernel
theorem dX3_priceOf_9 : decode cX3_priceOf 9 = .ok (.iaload, 1) := by decide +kernel
theorem dX3_priceOf_10 : decode cX3_priceOf 10 = .ok (.imul, 1) := by decide +kernel
theorem dX3_priceOf_11 : decode cX3_priceOf 11 = .ok (.aload_n 1, 1) := by decide +kernel
theorem dX3_priceOf_12 : decode cX3_priceOf 12 = .ok (.getfield 213, 3) := by decide +kernel
theorem dX3_priceOf_15 : decode cX3_priceOf 15 = .ok (.aload_n 0, 1) := by decide +kernel
theorem dX3_priceOf_16 : decode cX3_priceOf 16 = .ok (.getfield 26, 3) := by decide +kernel
theorem dX3_priceOf_19 : decode cX3_priceOf 19 = .ok (.iconst 1, 1) := by decide +kernel
theorem dX3_priceOf_20 : decode cX3_priceOf 20 = .ok (.iaload, 1) := by decide +kernel
theorem dX3_priceOf_21 : decode cX3_priceOf 21 = .ok (.imul, 1) := by decide +kernel
theorem dX3_priceOf_22 : decode cX3_priceOf 22 = .ok (.iadd, 1) := by decide +kernel
theorem dX3_priceOf_23 : decode cX3_priceOf 23 = .ok (.aload_n 1, 1) := by decide +kernel
theorem dX3_priceOf_24 : decode cX3_priceOf 24 = .ok (.getfield 216, 3) := by decide +kernel
theorem dX3_priceOf_27 : decode cX3_priceOf 27 = .ok (.aload_n 0, 1) := by decide +kernel
theorem dX3_priceOf_28 : decode cX3_priceOf 28 = .ok (.getfield 26, 3) := by decide +kernel
theorem dX3_priceOf_31 : decode cX3_priceOf 31 = .ok (.iconst 2, 1) := by decide +kernel
theorem dX3_priceOf_32 : decode cX3_priceOf 32 = .ok (.iaload, 1) := by decide +kernel
theorem dX3_priceOf_33 : decode cX3_priceOf 33 = .ok (.imul, 1) := by decide +kernel
theorem dX3_priceOf_34 : decode cX3_priceOf 34 = .ok (.iadd, 1) := by decide +kernel
theorem dX3_priceOf_35 : decode cX3_priceOf 35 = .ok (.ireturn, 1) := by decide +kernel
set_option maxRecDepth 20000 in
theorem ggX3_ownSum_X1_measureWithWaste : GoodIn wsX3_ownSum wsX1_measureWithWaste := goodIn_r _ [11, 12, 13, 14, 15, 16, 17, 26, 27, 28, 29, 30, 31] (by decide +kernel) (by decide +kernel)
set_option maxRecDepth 20000 in
theorem gX3_ownSum_X1_measureWithWaste : GoodIn wsX3_ownSum (wsV RX3 155 RX1 yX1_measureWithWaste wsX1_measureWithWaste) := goodIn_app (goodIn_of _ (by decide +kernel)) ggX3_ownSum_X1_measureWithWaste
set_option maxRecDepth 20000 in
theorem ggX3_ownSum_X3_priceOf : GoodIn wsX3_ownSum wsX3_priceOf := goodIn_r _ [21, 22, 23, 24, 25, 32, 33, 34, 35, 36, 37, 38, 39, 40, 41] (by decide +kernel) (by decide +kernel)
set_option maxRecDepth 20000 in
theorem gX3_ownSum_X3_priceOf : GoodIn wsX3_ownSum (wsV RX3 123 RX3 yX3_priceOf wsX3_priceOf) := goodIn_app (goodIn_of _ (by decide +kernel)) ggX3_ownSum_X3_priceOf
theorem dX3_ownSum_0 : decode cX3_ownSum 0 = .ok (.aload_n 1, 1) := by decide +kernel
theorem dX3_ownSum_1 : decode cX3_ownSum 1 = .ok (.getfield 219, 3) := by decide +kernel
theorem dX3_ownSum_4 : decode cX3_ownSum 4 = .ok (.ifnonnull 5, 3) := by decide +kernel
theorem dX3_ownSum_7 : decode cX3_ownSum 7 = .ok (.lconst 0, 1) := by decide +kernel
theorem dX3_ownSum_8 : decode cX3_ownSum 8 = .ok (.lreturn, 1) := by decide +kernel
theorem dX3_ownSum_9 : decode cX3_ownSum 9 = .ok (.lconst 0, 1) := by decide +kernel
theorem dX3_ownSum_10 : decode cX3_ownSum 10 = .ok (.aload_n 1, 1) := by decide +kernel
theorem dX3_ownSum_11 : decode cX3_ownSum 11 = .ok (.invokevirtual 155, 3) := by decide +kernel
theorem dX3_ownSum_14 : decode cX3_ownSum 14 = .ok (.aload_n 1, 1) := by decide +kernel
theorem dX3_ownSum_15 : decode cX3_ownSum 15 = .ok (.getfield 150, 3) := by decide +kernel
theorem dX3_ownSum_18 : decode cX3_ownSum 18 = .ok (.i2l, 1) := by decide +kernel
theorem dX3_ownSum_19 : decode cX3_ownSum 19 = .ok (.ladd, 1) := by decide +kernel
theorem dX3_ownSum_20 : decode cX3_ownSum 20 = .ok (.invokestatic 223, 3) := by decide +kernel
theorem dX3_ownSum_23 : decode cX3_ownSum 23 = .ok (.aload_n 0, 1) := by decide +kernel
theorem dX3_ownSum_24 : decode cX3_ownSum 24 = .ok (.aload_n 1, 1) := by decide +kernel
theorem dX3_ownSum_25 : decode cX3_ownSum 25 = .ok (.getfield 219, 3) := by decide +kernel
theorem dX3_ownSum_28 : decode cX3_ownSum 28 = .ok (.invokevirtual 123, 3) := by decide +kernel
theorem dX3_ownSum_31 : decode cX3_ownSum 31 = .ok (.i2l, 1) := by decide +kernel
theorem dX3_ownSum_32 : decode cX3_ownSum 32 = .ok (.lmul, 1) := by decide +kernel
theorem dX3_ownSum_33 : decode cX3_ownSum 33 = .ok (.lreturn, 1) := by decide +kernel
theorem dX3_hundredthsRoundedUp_0 : decode cX3_hundredthsRoundedUp 0 = .ok (.lload_n 0, 1) := by decide +kernel
theorem dX3_hundredthsRoundedUp_1 : decode cX3_hundredthsRoundedUp 1 = .ok (.ldc2_w 176, 3) := by decide +kernel
theorem dX3_hundredthsRoundedUp_4 : decode cX3_hundredthsRoundedUp 4 = .ok (.ladd, 1) := by decide +kernel
theorem dX3_hundredthsRoundedUp_5 : decode cX3_hundredthsRoundedUp 5 = .ok (.lconst 1, 1) := by decide +kernel
theorem dX3_hundredthsRoundedUp_6 : decode cX3_hundredthsRoundedUp 6 = .ok (.lsub, 1) := by decide +kernel
theorem dX3_hundredthsRoundedUp_7 : decode cX3_hundredthsRoundedUp 7 = .ok (.ldc2_w 176, 3) := by decide +kernel
theorem dX3_hundredthsRoundedUp_10 : decode cX3_hundredthsRoundedUp 10 = .ok (.ldiv, 1) := by decide +kernel
theorem dX3_hundredthsRoundedUp_11 : decode cX3_hundredthsRoundedUp 11 = .ok (.lreturn, 1) := by decide +kernel
theorem dX4_init_0 : decode cX4_init 0 = .ok (.aload_n 0, 1) := by decide +kernel
theorem dX4_init_1 : decode cX4_init 1 = .ok (.invokespecial 1, 3) := by decide +kernel
theorem dX4_init_4 : decode cX4_init 4 = .ok (.aload_n 0, 1) := by decide +kernel
theorem dX4_init_5 : decode cX4_init 5 = .ok (.sipush 1681, 3) := by decide +kernel
theorem dX4_init_8 : decode cX4_init 8 = .ok (.newarray .boolean, 2) := by decide +kernel
theorem dX4_init_10 : decode cX4_init 10 = .ok (.putfield 7, 3) := by decide +kernel
theorem dX4_init_13 : decode cX4_init 13 = .ok (.aload_n 0, 1) := by decide +kernel
theorem dX4_init_14 : decode cX4_init 14 = .ok (.bipush 10, 2) := by decide +kernel
theorem dX4_init_16 : decode cX4_init 16 = .ok (.newarray .int, 2) := by decide +kernel
theorem dX4_init_18 : decode cX4_init 18 = .ok (.putfield 13, 3) := by decide +kernel
theorem dX4_init_21 : decode cX4_init 21 = .ok (.aload_n 0, 1) := by decide +kernel
theorem dX4_init_22 : decode cX4_init 22 = .ok (.bipush 10, 2) := by decide +kernel
theorem dX4_init_24 : decode cX4_init 24 = .ok (.putfield 17, 3) := by decide +kernel
theorem dX4_init_27 : decode cX4_init 27 = .ok (.aload_n 0, 1) := by decide +kernel
theorem dX4_init_28 : decode cX4_init 28 = .ok (.bipush 36, 2) := by decide +kernel
theorem dX4_init_30 : decode cX4_init 30 = .ok (.newarray .int, 2) := by decide +kernel
theorem dX4_init_32 : decode cX4_init 32 = .ok (.putfield 21, 3) := by decide +kernel
theorem dX4_init_35 : decode cX4_init 35 = .ok (.aload_n 0, 1) := by decide +kernel
theorem dX4_init_36 : decode cX4_init 36 = .ok (.iconst 3, 1) := by decide +kernel
theorem dX4_init_37 : decode cX4_init 37 = .ok (.newarray .int, 2) := by decide +kernel
theorem dX4_init_39 : decode cX4_init 39 = .ok (.putfield 24, 3) := by decide +kernel
theorem dX4_init_42 : decode cX4_init 42 = .ok (.aload_n 0, 1) := by decide +kernel
theorem dX4_init_43 : decode cX4_init 43 = .ok (.bipush 30, 2) := by decide +kernel
theorem dX4_init_45 : decode cX4_init 45 = .ok (.newarray .int, 2) := by decide +kernel
theorem dX4_init_47 : decode cX4_init 47 = .ok (.putfield 27, 3) := by decide +kernel
theorem dX4_init_50 : decode cX4_init 50 = .ok (.aload_n 0, 1) := by decide +kernel
theorem dX4_init_51 : decode cX4_init 51 = .ok (.bipush 30, 2) := by decide +kernel
theorem dX4_init_53 : decode cX4_init 53 = .ok (.newarray .int, 2) := by decide +kernel
theorem dX4_init_55 : decode cX4_init 55 = .ok (.putfield 30, 3) := by decide +kernel
theorem dX4_init_58 : decode cX4_init 58 = .ok (.aload_n 0, 1) := by decide +kernel
theorem dX4_init_59 : decode cX4_init 59 = .ok (.bipush 30, 2) := by decide +kernel
theorem dX4_init_61 : decode cX4_init 61 = .ok (.newarray .int, 2) := by decide +kernel
theorem dX4_init_63 : decode cX4_init 63 = .ok (.putfield 33, 3) := by decide +kernel
theorem dX4_init_66 : decode cX4_init 66 = .ok (.aload_n 0, 1) := by decide +kernel
theorem dX4_init_67 : decode cX4_init 67 = .ok (.bipush 30, 2) := by decide +kernel
theorem dX4_init_69 : decode cX4_init 69 = .ok (.newarray .int, 2) := by decide +kernel
theorem dX4_init_71 : decode cX4_init 71 = .ok (.putfield 36, 3) := by decide +kernel
theorem dX4_init_74 : decode cX4_init 74 = .ok (.aload_n 0, 1) := by decide +kernel
theorem dX4_init_75 : decode cX4_init 75 = .ok (.bipush 30, 2) := by decide +kernel
theorem dX4_init_77 : decode cX4_init 77 = .ok (.newarray .int, 2) := by decide +kernel
theorem dX4_init_79 : decode cX4_init 79 = .ok (.putfield 39, 3) := by decide +kernel
theorem dX4_init_82 : decode cX4_init 82 = .ok (.aload_n 0, 1) := by decide +kernel
theorem dX4_init_83 : decode cX4_init 83 = .ok (.bipush 30, 2) := by decide +kernel
theorem dX4_init_85 : decode cX4_init 85 = .ok (.newarray .int, 2) := by decide +kernel
theorem dX4_init_87 : decode cX4_init 87 = .ok (.putfield 42, 3) := by decide +kernel
theorem dX4_init_90 : decode cX4_init 90 = .ok (.aload_n 0, 1) := by decide +kernel
theorem dX4_init_91 : decode cX4_init 91 = .ok (.bipush 30, 2) := by decide +kernel
theorem dX4_init_93 : decode cX4_init 93 = .ok (.newarray .long, 2) := by decide +kernel
theorem dX4_init_95 : decode cX4_init 95 = .ok (.putfield 45, 3) := by decide +kernel
theorem dX4_init_98 : decode cX4_init 98 = .ok (.aload_n 0, 1) := by decide +kernel
theorem dX4_init_99 : decode cX4_init 99 = .ok (.iconst 5, 1) := by decide +kernel
theorem dX4_init_100 : decode cX4_init 100 = .ok (.putfield 49, 3) := by decide +kernel
theorem dX4_init_103 : decode cX4_init 103 = .ok (.aload_n 0, 1) := by decide +kernel
theorem dX4_init_104 : decode cX4_init 104 = .ok (.getfield 24, 3) := by decide +kernel
theorem dX4_init_107 : decode cX4_init 107 = .ok (.iconst 0, 1) := by decide +kernel
theorem dX4_init_108 : decode cX4_init 108 = .ok (.iconst 1, 1) := by decide +kernel
theorem dX4_init_109 : decode cX4_init 109 = .ok (.iastore, 1) := by decide +kernel
theorem dX4_init_110 : decode cX4_init 110 = .ok (.aload_n 0, 1) := by decide +kernel
theorem dX4_init_111 : decode cX4_init 111 = .ok (.getfield 24, 3) := by decide +kernel
theorem dX4_init_114 : decode cX4_init 114 = .ok (.iconst 1, 1) := by decide +kernel
theorem dX4_init_115 : decode cX4_init 115 = .ok (.iconst 1, 1) := by decide +kernel
theorem dX4_init_116 : decode cX4_init 116 = .ok (.iastore, 1) := by decide +kernel
theorem dX4_init_117 : decode cX4_init 117 = .ok (.aload_n 0, 1) := by decide +kernel
theorem dX4_init_118 : decode cX4_init 118 = .ok (.getfield 24, 3) := by decide +kernel
theorem dX4_init_121 : decode cX4_init 121 = .ok (.iconst 2, 1) := by decide +kernel
theorem dX4_init_122 : decode cX4_init 122 = .ok (.iconst 1, 1) := by decide +kernel
theorem dX4_init_123 : decode cX4_init 123 = .ok (.iastore, 1) := by decide +kernel
theorem dX4_init_124 : decode cX4_init 124 = .ok (.return_, 1) := by decide +kernel
theorem dX4_thrown_0 : decode cX4_thrown 0 = .ok (.aload_n 0, 1) := by decide +kernel
theorem dX4_thrown_1 : decode cX4_thrown 1 = .ok (.getfield 52, 3) := by decide +kernel
theorem dX4_thrown_4 : decode cX4_thrown 4 = .ok (.ireturn, 1) := by decide +kernel
theorem dX4_in_0 : decode cX4_in 0 = .ok (.iload_n 0, 1) := by decide +kernel
theorem dX4_in_1 : decode cX4_in 1 = .ok (.iload_n 1, 1) := by decide +kernel
theorem dX4_in_2 : decode cX4_in 2 = .ok (.if_icmp .lt 12, 3) := by decide +kernel
theorem dX4_in_5 : decode cX4_in 5 = .ok (.iload_n 0, 1) := by decide +kernel
theorem dX4_in_6 : decode cX4_in 6 = .ok (.iload_n 2, 1) := by decide +kernel
theorem dX4_in_7 : decode cX4_in 7 = .ok (.if_icmp .gt 7, 3) := by decide +kernel
theorem dX4_in_10 : decode cX4_in 10 = .ok (.iconst 1, 1) := by decide +kernel
theorem dX4_in_11 : decode cX4_in 11 = .ok (.goto 4, 3) := by decide +kernel
theorem dX4_in_14 : decode cX4_in 14 = .ok (.iconst 0, 1) := by decide +kernel
theorem dX4_in_15 : decode cX4_in 15 = .ok (.ireturn, 1) := by decide +kernel
theorem dX4_goes_0 : decode cX4_goes 0 = .ok (.aload_n 0, 1) := by decide +kernel
theorem dX4_goes_1 : decode cX4_goes 1 = .ok (.iload_n 1, 1) := by decide +kernel
theorem dX4_goes_2 : decode cX4_goes 2 = .ok (.ifCond .ne 7, 3) := by decide +kernel
theorem dX4_goes_5 : decode cX4_goes 5 = .ok (.iconst 1, 1) := by decide +kernel
theorem dX4_goes_6 : decode cX4_goes 6 = .ok (.goto 20, 3) := by decide +kernel
theorem dX4_goes_9 : decode cX4_goes 9 = .ok (.iload_n 2, 1) := by decide +kernel
theorem dX4_goes_10 : decode cX4_goes 10 = .ok (.ifCond .ne 7, 3) := by decide +kernel
theorem dX4_goes_13 : decode cX4_goes 13 = .ok (.iconst 2, 1) := by decide +kernel
theorem dX4_goes_14 : decode cX4_goes 14 = .ok (.goto 12, 3) := by decide +kernel
theorem dX4_goes_17 : decode cX4_goes 17 = .ok (.iload_n 3, 1) := by decide +kernel
theorem dX4_goes_18 : decode cX4_goes 18 = .ok (.ifCond .eq 7, 3) := by decide +kernel
theorem dX4_goes_21 : decode cX4_goes 21 = .ok (.iconst 0, 1) := by decide +kernel
theorem dX4_goes_22 : decode cX4_goes 22 = .ok (.goto 4, 3) := by decide +kernel
theorem dX4_goes_25 : decode cX4_goes 25 = .ok (.iconst 3, 1) := by decide +kernel
theorem dX4_goes_26 : decode cX4_goes 26 = .ok (.putfield 52, 3) := by decide +kernel
theorem dX4_goes_29 : decode cX4_goes 29 = .ok (.aload_n 0, 1) := by decide +kernel
theorem dX4_goes_30 : decode cX4_goes 30 = .ok (.getfield 52, 3) := by decide +kernel
theorem dX4_goes_33 : decode cX4_goes 33 = .ok (.ifCond .ne 7, 3) := by decide +kernel
theorem dX4_goes_36 : decode cX4_goes 36 = .ok (.iconst 1, 1) := by decide +kernel
theorem dX4_goes_37 : decode cX4_goes 37 = .ok (.goto 4, 3) := by decide +kernel
theorem dX4_goes_40 : decode cX4_goes 40 = .ok (.iconst 0, 1) := by decide +kernel
theorem dX4_goes_41 : decode cX4_goes 41 = .ok (.ireturn, 1) := by decide +kernel
set_option maxRecDepth 20000 in
theorem ggX4_isItem_X4_in : GoodIn wsX4_isItem wsX4_in := goodIn_r _ [5] (by decide +kernel) (by decide +kernel)
set_option maxRecDepth 20000 in
theorem gX4_isItem_X4_in : GoodIn wsX4_isItem (va_wsS RX4 58 yX4_in wsX4_in) := goodIn_app (goodIn_of _ (by decide +kernel)) ggX4_isItem_X4_in
theorem dX4_isItem_0 : decode cX4_isItem 0 = .ok (.iload_n 1, 1) := by decide +kernel
theorem dX4_isItem_1 : decode cX4_isItem 1 = .ok (.iconst 0, 1) := by decide +kernel
theorem dX4_isItem_2 : decode cX4_isItem 2 = .ok (.aload_n 0, 1) := by decide +kernel
theorem dX4_isItem_3 : decode cX4_isItem 3 = .ok (.getfield 55, 3) := by decide +kernel
theorem dX4_isItem_6 : decode cX4_isItem 6 = .ok (.iconst 1, 1) := by decide +kernel
theorem dX4_isItem_7 : decode cX4_isItem 7 = .ok (.isub, 1) := by decide +kernel
theorem dX4_isItem_8 : decode cX4_isItem 8 = .ok (.invokestatic 58, 3) := by decide +kernel
theorem dX4_isItem_11 : decode cX4_isItem 11 = .ok (.ireturn, 1) := by decide +kernel
theorem dX4_isHeading_0 : decode cX4_isHeading 0 = .ok (.aload_n 0, 1) := by decide +kernel
theorem dX4_isHeading_1 : decode cX4_isHeading 1 = .ok (.getfield 30, 3) := by decide +kernel
theorem dX4_isHeading_4 : decode cX4_isHeading 4 = .ok (.iload_n 1, 1) := by decide +kernel
theorem dX4_isHeading_5 : decode cX4_isHeading 5 = .ok (.iaload, 1) := by decide +kernel
theorem dX4_isHeading_6 : decode cX4_isHeading 6 = .ok (.iconst (-1), 1) := by decide +kernel
theorem dX4_isHeading_7 : decode cX4_isHeading 7 = .ok (.if_icmp .ne 7, 3) := by decide +kernel
theorem dX4_isHeading_10 : decode cX4_isHeading 10 = .ok (.iconst 1, 1) := by decide +kernel
theorem dX4_isHeading_11 : decode cX4_isHeading 11 = .ok (.goto 4, 3) := by decide +kernel
theorem dX4_isHeading_14 : decode cX4_isHeading 14 = .ok (.iconst 0, 1) := by decide +kernel
theorem dX4_isHeading_15 : decode cX4_isHeading 15 = .ok (.ireturn, 1) := by decide +kernel
set_option maxRecDepth 20000 in
theorem ggX4_isRate_X4_in : GoodIn wsX4_isRate wsX4_in := goodIn_r _ [5] (by decide +kernel) (by decide +kernel)
set_option maxRecDepth 20000 in
theorem gX4_isRate_X4_in : GoodIn wsX4_isRate (va_wsS RX4 58 yX4_in wsX4_in) := goodIn_app (goodIn_of _ (by decide +kernel)) ggX4_isRate_X4_in
theorem dX4_isRate_0 : decode cX4_isRate 0 = .ok (.iload_n 1, 1) := by decide +kernel
theorem dX4_isRate_1 : decode cX4_isRate 1 = .ok (.iconst 0, 1) := by decide +kernel
theorem dX4_isRate_2 : decode cX4_isRate 2 = .ok (.aload_n 0, 1) := by decide +kernel
theorem dX4_isRate_3 : decode cX4_isRate 3 = .ok (.getfield 62, 3) := by decide +kernel
theorem dX4_isRate_6 : decode cX4_isRate 6 = .ok (.iconst 1, 1) := by decide +kernel
theorem dX4_isRate_7 : decode cX4_isRate 7 = .ok (.isub, 1) := by decide +kernel
theorem dX4_isRate_8 : decode cX4_isRate 8 = .ok (.invokestatic 58, 3) := by decide +kernel
theorem dX4_isRate_11 : decode cX4_isRate 11 = .ok (.ireturn, 1) := by decide +kernel
set_option maxRecDepth 20000 in
theorem ggX4_begin_X4_in : GoodIn wsX4_begin wsX4_in := goodIn_r _ [14] (by decide +kernel) (by decide +kernel)
set_option maxRecDepth 20000 in
theorem gX4_begin_X4_in : GoodIn wsX4_begin (va_wsS RX4 58 yX4_in wsX4_in) := goodIn_app (goodIn_of _ (by decide +kernel)) ggX4_begin_X4_in
set_option maxRecDepth 20000 in
theorem ggX4_begin_X4_goes : GoodIn wsX4_begin wsX4_goes := goodIn_r _ [18, 19, 20, 21, 22, 23, 24, 25, 26, 27, 28, 29, 30, 31, 32, 33, 34, 35, 36, 37, 38, 39, 40, 41, 42, 43, 44, 45] (by decide +kernel) (by decide +kernel)
set_option maxRecDepth 20000 in
theorem gX4_begin_X4_goes : GoodIn wsX4_begin (wsV RX4 65 RX4 yX4_goes wsX4_goes) := goodIn_app (goodIn_of _ (by decide +kernel)) ggX4_begin_X4_goes
theorem dX4_begin_0 : decode cX4_begin 0 = .ok (.aload_n 0, 1) := by decide +kernel
theorem dX4_begin_1 : decode cX4_begin 1 = .ok (.iload_n 1, 1) := by decide +kernel
theorem dX4_begin_2 : decode cX4_begin 2 = .ok (.iconst 0, 1) := by decide +kernel
theorem dX4_begin_3 : decode cX4_begin 3 = .ok (.bipush 40, 2) := by decide +kernel
theorem dX4_begin_5 : decode cX4_begin 5 = .ok (.invokestatic 58, 3) := by decide +kernel
theorem dX4_begin_8 : decode cX4_begin 8 = .ok (.ifCond .eq 17, 3) := by decide +kernel
theorem dX4_begin_11 : decode cX4_begin 11 = .ok (.iload_n 2, 1) := by decide +kernel
theorem dX4_begin_12 : decode cX4_begin 12 = .ok (.iconst 0, 1) := by decide +kernel
theorem dX4_begin_13 : decode cX4_begin 13 = .ok (.bipush 40, 2) := by decide +kernel
theorem dX4_begin_15 : decode cX4_begin 15 = .ok (.invokestatic 58, 3) := by decide +kernel
theorem dX4_begin_18 : decode cX4_begin 18 = .ok (.ifCond .eq 7, 3) := by decide +kernel
theorem dX4_begin_21 : decode cX4_begin 21 = .ok (.iconst 1, 1) := by decide +kernel
theorem dX4_begin_22 : decode cX4_begin 22 = .ok (.goto 4, 3) := by decide +kernel
theorem dX4_begin_25 : decode cX4_begin 25 = .ok (.iconst 0, 1) := by decide +kernel
theorem dX4_begin_26 : decode cX4_begin 26 = .ok (.iconst 1, 1) := by decide +kernel
theorem dX4_begin_27 : decode cX4_begin 27 = .ok (.iconst 1, 1) := by decide +kernel
theorem dX4_begin_28 : decode cX4_begin 28 = .ok (.invokevirtual 65, 3) := by decide +kernel
theorem dX4_begin_31 : decode cX4_begin 31 = .ok (.ifCond .eq 88, 3) := by decide +kernel
theorem dX4_begin_34 : decode cX4_begin 34 = .ok (.iconst 0, 1) := by decide +kernel
theorem dX4_begin_35 : decode cX4_begin 35 = .ok (.istore_n 3, 1) := by decide +kernel
theorem dX4_begin_36 : decode cX4_begin 36 = .ok (.iload_n 3, 1) := by decide +kernel
theorem dX4_begin_37 : decode cX4_begin 37 = .ok (.sipush 1681, 3) := by decide +kernel
theorem dX4_begin_40 : decode cX4_begin 40 = .ok (.if_icmp .ge 16, 3) := by decide +kernel
theorem dX4_begin_43 : decode cX4_begin 43 = .ok (.aload_n 0, 1) := by decide +kernel
theorem dX4_begin_44 : decode cX4_begin 44 = .ok (.getfield 7, 3) := by decide +kernel
theorem dX4_begin_47 : decode cX4_begin 47 = .ok (.iload_n 3, 1) := by decide +kernel
theorem dX4_begin_48 : decode cX4_begin 48 = .ok (.iconst 0, 1) := by decide +kernel
theorem dX4_begin_49 : decode cX4_begin 49 = .ok (.bastore, 1) := by decide +kernel
theorem dX4_begin_50 : decode cX4_begin 50 = .ok (.iinc 3 1, 3) := by decide +kernel
theorem dX4_begin_53 : decode cX4_begin 53 = .ok (.goto (-17), 3) := by decide +kernel
theorem dX4_begin_56 : decode cX4_begin 56 = .ok (.aload_n 0, 1) := by decide +kernel
theorem dX4_begin_57 : decode cX4_begin 57 = .ok (.iconst 1, 1) := by decide +kernel
theorem dX4_begin_58 : decode cX4_begin 58 = .ok (.putfield 69, 3) := by decide +kernel
theorem dX4_begin_61 : decode cX4_begin 61 = .ok (.aload_n 0, 1) := by decide +kernel
theorem dX4_begin_62 : decode cX4_begin 62 = .ok (.iconst 0, 1) := by decide +kernel
theorem dX4_begin_63 : decode cX4_begin 63 = .ok (.putfield 73, 3) := by decide +kernel
theorem dX4_begin_66 : decode cX4_begin 66 = .ok (.aload_n 0, 1) := by decide +kernel
theorem dX4_begin_67 : decode cX4_begin 67 = .ok (.iload_n 1, 1) := by decide +kernel
theorem dX4_begin_68 : decode cX4_begin 68 = .ok (.putfield 76, 3) := by decide +kernel
theorem dX4_begin_71 : decode cX4_begin 71 = .ok (.aload_n 0, 1) := by decide +kernel
theorem dX4_begin_72 : decode cX4_begin 72 = .ok (.iload_n 2, 1) := by decide +kernel
theorem dX4_begin_73 : decode cX4_begin 73 = .ok (.putfield 79, 3) := by decide +kernel
theorem dX4_begin_76 : decode cX4_begin 76 = .ok (.aload_n 0, 1) := by decide +kernel
theorem dX4_begin_77 : decode cX4_begin 77 = .ok (.iload_n 1, 1) := by decide +kernel
theorem dX4_begin_78 : decode cX4_begin 78 = .ok (.putfield 82, 3) := by decide +kernel
theorem dX4_begin_81 : decode cX4_begin 81 = .ok (.aload_n 0, 1) := by decide +kernel
theorem dX4_begin_82 : decode cX4_begin 82 = .ok (.iload_n 2, 1) := by decide +kernel
theorem dX4_begin_83 : decode cX4_begin 83 = .ok (.putfield 85, 3) := by decide +kernel
theorem dX4_begin_86 : decode cX4_begin 86 = .ok (.aload_n 0, 1) := by decide +kernel
theorem dX4_begin_87 : decode cX4_begin 87 = .ok (.iconst 0, 1) := by decide +kernel
theorem dX4_begin_88 : decode cX4_begin 88 = .ok (.putfield 88, 3) := by decide +kernel
theorem dX4_begin_91 : decode cX4_begin 91 = .ok (.aload_n 0, 1) := by decide +kernel
theorem dX4_begin_92 : decode cX4_begin 92 = .ok (.iconst 0, 1) := by decide +kernel
theorem dX4_begin_93 : decode cX4_begin 93 = .ok (.putfield 91, 3) := by decide +kernel
theorem dX4_begin_96 : decode cX4_begin 96 = .ok (.aload_n 0, 1) := by decide +kernel
theorem dX4_begin_97 : decode cX4_begin 97 = .ok (.iconst 0, 1) := by decide +kernel
theorem dX4_begin_98 : decode cX4_begin 98 = .ok (.putfield 94, 3) := by decide +kernel
theorem dX4_begin_101 : decode cX4_begin 101 = .ok (.aload_n 0, 1) := by decide +kernel
theorem dX4_begin_102 : decode cX4_begin 102 = .ok (.getfield 7, 3) := by decide +kernel
theorem dX4_begin_105 : decode cX4_begin 105 = .ok (.bipush 41, 2) := by decide +kernel
theorem dX4_begin_107 : decode cX4_begin 107 = .ok (.aload_n 0, 1) := by decide +kernel
theorem dX4_begin_108 : decode cX4_begin 108 = .ok (.getfield 82, 3) := by decide +kernel
theorem dX4_begin_111 : decode cX4_begin 111 = .ok (.imul, 1) := by decide +kernel
theorem dX4_begin_112 : decode cX4_begin 112 = .ok (.aload_n 0, 1) := by decide +kernel
theorem dX4_begin_113 : decode cX4_begin 113 = .ok (.getfield 85, 3) := by decide +kernel
theorem dX4_begin_116 : decode cX4_begin 116 = .ok (.iadd, 1) := by decide +kernel
theorem dX4_begin_117 : decode cX4_begin 117 = .ok (.iconst 1, 1) := by decide +kernel
theorem dX4_begin_118 : decode cX4_begin 118 = .ok (.bastore, 1) := by decide +kernel
theorem dX4_begin_119 : decode cX4_begin 119 = .ok (.return_, 1) := by decide +kernel
set_option maxRecDepth 20000 in
theorem ggX4_canGo_X4_in : GoodIn wsX4_canGo wsX4_in := goodIn_r _ [10] (by decide +kernel) (by decide +kernel)
set_option maxRecDepth 20000 in
theorem gX4_canGo_X4_in : GoodIn wsX4_canGo (va_wsS RX4 58 yX4_in wsX4_in) := goodIn_app (goodIn_of _ (by decide +kernel)) ggX4_canGo_X4_in
theorem dX4_canGo_0 : decode cX4_canGo 0 = .ok (.iconst 1, 1) := by decide +kernel
theorem dX4_canGo_1 : decode cX4_canGo 1 = .ok (.istore 4, 2) := by decide +kernel
theorem dX4_canGo_3 : decode cX4_canGo 3 = .ok (.iload 4, 2) := by decide +kernel
theorem dX4_canGo_5 : decode cX4_canGo 5 = .ok (.iload_n 3, 1) := by decide +kernel
theorem dX4_canGo_6 : decode cX4_canGo 6 = .ok (.if_icmp .gt 127, 3) := by decide +kernel
theorem dX4_canGo_9 : decode cX4_canGo 9 = .ok (.aload_n 0, 1) := by decide +kernel
theorem dX4_canGo_10 : decode cX4_canGo 10 = .ok (.getfield 82, 3) := by decide +kernel
theorem dX4_canGo_13 : decode cX4_canGo 13 = .ok (.iload 4, 2) := by decide +kernel
theorem dX4_canGo_15 : decode cX4_canGo 15 = .ok (.iload_n 1, 1) := by decide +kernel
theorem dX4_canGo_16 : decode cX4_canGo 16 = .ok (.imul, 1) := by decide +kernel
theorem dX4_canGo_17 : decode cX4_canGo 17 = .ok (.iadd, 1) := by decide +kernel
theorem dX4_canGo_18 : decode cX4_canGo 18 = .ok (.istore 5, 2) := by decide +kernel
theorem dX4_canGo_20 : decode cX4_canGo 20 = .ok (.aload_n 0, 1) := by decide +kernel
theorem dX4_canGo_21 : decode cX4_canGo 21 = .ok (.getfield 85, 3) := by decide +kernel
theorem dX4_canGo_24 : decode cX4_canGo 24 = .ok (.iload 4, 2) := by decide +kernel
theorem dX4_canGo_26 : decode cX4_canGo 26 = .ok (.iload_n 2, 1) := by decide +kernel
theorem dX4_canGo_27 : decode cX4_canGo 27 = .ok (.imul, 1) := by decide +kernel
theorem dX4_canGo_28 : decode cX4_canGo 28 = .ok (.iadd, 1) := by decide +kernel
theorem dX4_canGo_29 : decode cX4_canGo 29 = .ok (.istore 6, 2) := by decide +kernel
theorem dX4_canGo_31 : decode cX4_canGo 31 = .ok (.iload 5, 2) := by decide +kernel
theorem dX4_canGo_33 : decode cX4_canGo 33 = .ok (.iconst 0, 1) := by decide +kernel
theorem dX4_canGo_34 : decode cX4_canGo 34 = .ok (.bipush 40, 2) := by decide +kernel
theorem dX4_canGo_36 : decode cX4_canGo 36 = .ok (.invokestatic 58, 3) := by decide +kernel
theorem dX4_canGo_39 : decode cX4_canGo 39 = .ok (.ifCond .eq 18, 3) := by decide +kernel
theorem dX4_canGo_42 : decode cX4_canGo 42 = .ok (.iload 6, 2) := by decide +kernel
theorem dX4_canGo_44 : decode cX4_canGo 44 = .ok (.iconst 0, 1) := by decide +kernel
theorem dX4_canGo_45 : decode cX4_canGo 45 = .ok (.bipush 40, 2) := by decide +kernel
theorem dX4_canGo_47 : decode cX4_canGo 47 = .ok (.invokestatic 58, 3) := by decide +kernel
theorem dX4_canGo_50 : decode cX4_canGo 50 = .ok (.ifCond .eq 7, 3) := by decide +kernel
theorem dX4_canGo_53 : decode cX4_canGo 53 = .ok (.iconst 1, 1) := by decide +kernel
theorem dX4_canGo_54 : decode cX4_canGo 54 = .ok (.goto 4, 3) := by decide +kernel
theorem dX4_canGo_57 : decode cX4_canGo 57 = .ok (.iconst 0, 1) := by decide +kernel
theorem dX4_canGo_58 : decode cX4_canGo 58 = .ok (.istore 7, 2) := by decide +kernel
theorem dX4_canGo_60 : decode cX4_canGo 60 = .ok (.iload 4, 2) := by decide +kernel
theorem dX4_canGo_62 : decode cX4_canGo 62 = .ok (.iload_n 3, 1) := by decide +kernel
theorem dX4_canGo_63 : decode cX4_canGo 63 = .ok (.if_icmp .ne 33, 3) := by decide +kernel
theorem dX4_canGo_66 : decode cX4_canGo 66 = .ok (.iload 5, 2) := by decide +kernel
theorem dX4_canGo_68 : decode cX4_canGo 68 = .ok (.aload_n 0, 1) := by decide +kernel
theorem dX4_canGo_69 : decode cX4_canGo 69 = .ok (.getfield 76, 3) := by decide +kernel
theorem dX4_canGo_72 : decode cX4_canGo 72 = .ok (.if_icmp .ne 24, 3) := by decide +kernel
theorem dX4_canGo_75 : decode cX4_canGo 75 = .ok (.iload 6, 2) := by decide +kernel
theorem dX4_canGo_77 : decode cX4_canGo 77 = .ok (.aload_n 0, 1) := by decide +kernel
theorem dX4_canGo_78 : decode cX4_canGo 78 = .ok (.getfield 79, 3) := by decide +kernel
theorem dX4_canGo_81 : decode cX4_canGo 81 = .ok (.if_icmp .ne 15, 3) := by decide +kernel
theorem dX4_canGo_84 : decode cX4_canGo 84 = .ok (.aload_n 0, 1) := by decide +kernel
theorem dX4_canGo_85 : decode cX4_canGo 85 = .ok (.getfield 88, 3) := by decide +kernel
theorem dX4_canGo_88 : decode cX4_canGo 88 = .ok (.iconst 3, 1) := by decide +kernel
theorem dX4_canGo_89 : decode cX4_canGo 89 = .ok (.if_icmp .lt 7, 3) := by decide +kernel
theorem dX4_canGo_92 : decode cX4_canGo 92 = .ok (.iconst 1, 1) := by decide +kernel
theorem dX4_canGo_93 : decode cX4_canGo 93 = .ok (.goto 4, 3) := by decide +kernel
theorem dX4_canGo_96 : decode cX4_canGo 96 = .ok (.iconst 0, 1) := by decide +kernel
theorem dX4_canGo_97 : decode cX4_canGo 97 = .ok (.istore 8, 2) := by decide +kernel
theorem dX4_canGo_99 : decode cX4_canGo 99 = .ok (.iload 7, 2) := by decide +kernel
theorem dX4_canGo_101 : decode cX4_canGo 101 = .ok (.ifCond .eq 24, 3) := by decide +kernel
theorem dX4_canGo_104 : decode cX4_canGo 104 = .ok (.aload_n 0, 1) := by decide +kernel
theorem dX4_canGo_105 : decode cX4_canGo 105 = .ok (.getfield 7, 3) := by decide +kernel
theorem dX4_canGo_108 : decode cX4_canGo 108 = .ok (.bipush 41, 2) := by decide +kernel
theorem dX4_canGo_110 : decode cX4_canGo 110 = .ok (.iload 5, 2) := by decide +kernel
theorem dX4_canGo_112 : decode cX4_canGo 112 = .ok (.imul, 1) := by decide +kernel
theorem dX4_canGo_113 : decode cX4_canGo 113 = .ok (.iload 6, 2) := by decide +kernel
theorem dX4_canGo_115 : decode cX4_canGo 115 = .ok (.iadd, 1) := by decide +kernel
theorem dX4_canGo_116 : decode cX4_canGo 116 = .ok (.baload, 1) := by decide +kernel
theorem dX4_canGo_117 : decode cX4_canGo 117 = .ok (.ifCond .eq 10, 3) := by decide +kernel
theorem dX4_canGo_120 : decode cX4_canGo 120 = .ok (.iload 8, 2) := by decide +kernel
theorem dX4_canGo_122 : decode cX4_canGo 122 = .ok (.ifCond .ne 5, 3) := by decide +kernel
theorem dX4_canGo_125 : decode cX4_canGo 125 = .ok (.iconst 0, 1) := by decide +kernel
theorem dX4_canGo_126 : decode cX4_canGo 126 = .ok (.ireturn, 1) := by decide +kernel
theorem dX4_canGo_127 : decode cX4_canGo 127 = .ok (.iinc 4 1, 3) := by decide +kernel
theorem dX4_canGo_130 : decode cX4_canGo 130 = .ok (.goto (-127), 3) := by decide +kernel
theorem dX4_canGo_133 : decode cX4_canGo 133 = .ok (.iconst 1, 1) := by decide +kernel
theorem dX4_canGo_134 : decode cX4_canGo 134 = .ok (.ireturn, 1) := by decide +kernel
set_option maxRecDepth 20000 in
theorem ggX4_wall_X4_in : GoodIn wsX4_wall wsX4_in := goodIn_r _ [11] (by decide +kernel) (by decide +kernel)
set_option maxRecDepth 20000 in
theorem gX4_wall_X4_in : GoodIn wsX4_wall (va_wsS RX4 58 yX4_in wsX4_in) := goodIn_app (goodIn_of _ (by decide +kernel)) ggX4_wall_X4_in
set_option maxRecDepth 20000 in
theorem ggX4_wall_X4_canGo : GoodIn wsX4_wall wsX4_canGo := goodIn_r _ [15, 3, 4, 16, 17, 6, 5, 8, 9, 10, 11, 23, 24, 25, 26, 27, 28, 29, 30, 31, 32, 33, 34, 35, 36, 37, 38, 39, 40, 41, 42, 43, 44, 45, 46, 47, 48] (by decide +kernel) (by decide +kernel)
set_option maxRecDepth 20000 in
theorem gX4_wall_X4_canGo : GoodIn wsX4_wall (wsV RX4 97 RX4 yX4_canGo wsX4_canGo) := goodIn_app (goodIn_of _ (by decide +kernel)) ggX4_wall_X4_canGo
set_option maxRecDepth 20000 in
theorem ggX4_wall_X4_goes : GoodIn wsX4_wall wsX4_goes := goodIn_r _ [21, 22, 23, 24, 25, 26, 27, 28, 29, 30, 31, 32, 33, 34, 35, 36, 37, 38, 39, 40, 41, 42, 43, 44, 45, 46, 47, 48] (by decide +kernel) (by decide +kernel)
set_option maxRecDepth 20000 in
theorem gX4_wall_X4_goes : GoodIn wsX4_wall (wsV RX4 65 RX4 yX4_goes wsX4_goes) := goodIn_app (goodIn_of _ (by decide +kernel)) ggX4_wall_X4_goes
theorem dX4_wall_0 : decode cX4_wall 0 = .ok (.iload_n 1, 1) := by decide +kernel
theorem dX4_wall_1 : decode cX4_wall 1 = .ok (.iconst 0, 1) := by decide +kernel
theorem dX4_wall_2 : decode cX4_wall 2 = .ok (.iconst 3, 1) := by decide +kernel
theorem dX4_wall_3 : decode cX4_wall 3 = .ok (.invokestatic 58, 3) := by decide +kernel
theorem dX4_wall_6 : decode cX4_wall 6 = .ok (.ifCond .eq 17, 3) := by decide +kernel
theorem dX4_wall_9 : decode cX4_wall 9 = .ok (.iload_n 2, 1) := by decide +kernel
theorem dX4_wall_10 : decode cX4_wall 10 = .ok (.iconst 1, 1) := by decide +kernel
theorem dX4_wall_11 : decode cX4_wall 11 = .ok (.bipush 40, 2) := by decide +kernel
theorem dX4_wall_13 : decode cX4_wall 13 = .ok (.invokestatic 58, 3) := by decide +kernel
theorem dX4_wall_16 : decode cX4_wall 16 = .ok (.ifCond .eq 7, 3) := by decide +kernel
theorem dX4_wall_19 : decode cX4_wall 19 = .ok (.iconst 1, 1) := by decide +kernel
theorem dX4_wall_20 : decode cX4_wall 20 = .ok (.goto 4, 3) := by decide +kernel
theorem dX4_wall_23 : decode cX4_wall 23 = .ok (.iconst 0, 1) := by decide +kernel
theorem dX4_wall_24 : decode cX4_wall 24 = .ok (.istore_n 3, 1) := by decide +kernel
theorem dX4_wall_25 : decode cX4_wall 25 = .ok (.iload_n 1, 1) := by decide +kernel
theorem dX4_wall_26 : decode cX4_wall 26 = .ok (.ifCond .ne 7, 3) := by decide +kernel
theorem dX4_wall_29 : decode cX4_wall 29 = .ok (.iconst 1, 1) := by decide +kernel
theorem dX4_wall_30 : decode cX4_wall 30 = .ok (.goto 13, 3) := by decide +kernel
theorem dX4_wall_33 : decode cX4_wall 33 = .ok (.iload_n 1, 1) := by decide +kernel
theorem dX4_wall_34 : decode cX4_wall 34 = .ok (.iconst 2, 1) := by decide +kernel
theorem dX4_wall_35 : decode cX4_wall 35 = .ok (.if_icmp .ne 7, 3) := by decide +kernel
theorem dX4_wall_38 : decode cX4_wall 38 = .ok (.iconst (-1), 1) := by decide +kernel
theorem dX4_wall_39 : decode cX4_wall 39 = .ok (.goto 4, 3) := by decide +kernel
theorem dX4_wall_42 : decode cX4_wall 42 = .ok (.iconst 0, 1) := by decide +kernel
theorem dX4_wall_43 : decode cX4_wall 43 = .ok (.istore 4, 2) := by decide +kernel
theorem dX4_wall_45 : decode cX4_wall 45 = .ok (.iload_n 1, 1) := by decide +kernel
theorem dX4_wall_46 : decode cX4_wall 46 = .ok (.iconst 1, 1) := by decide +kernel
theorem dX4_wall_47 : decode cX4_wall 47 = .ok (.if_icmp .ne 7, 3) := by decide +kernel
theorem dX4_wall_50 : decode cX4_wall 50 = .ok (.iconst 1, 1) := by decide +kernel
theorem dX4_wall_51 : decode cX4_wall 51 = .ok (.goto 13, 3) := by decide +kernel
theorem dX4_wall_54 : decode cX4_wall 54 = .ok (.iload_n 1, 1) := by decide +kernel
theorem dX4_wall_55 : decode cX4_wall 55 = .ok (.iconst 3, 1) := by decide +kernel
theorem dX4_wall_56 : decode cX4_wall 56 = .ok (.if_icmp .ne 7, 3) := by decide +kernel
theorem dX4_wall_59 : decode cX4_wall 59 = .ok (.iconst (-1), 1) := by decide +kernel
theorem dX4_wall_60 : decode cX4_wall 60 = .ok (.goto 4, 3) := by decide +kernel
theorem dX4_wall_63 : decode cX4_wall 63 = .ok (.iconst 0, 1) := by decide +kernel
theorem dX4_wall_64 : decode cX4_wall 64 = .ok (.istore 5, 2) := by decide +kernel
theorem dX4_wall_66 : decode cX4_wall 66 = .ok (.aload_n 0, 1) := by decide +kernel
theorem dX4_wall_67 : decode cX4_wall 67 = .ok (.getfield 69, 3) := by decide +kernel
theorem dX4_wall_70 : decode cX4_wall 70 = .ok (.ifCond .eq 14, 3) := by decide +kernel
theorem dX4_wall_73 : decode cX4_wall 73 = .ok (.aload_n 0, 1) := by decide +kernel
theorem dX4_wall_74 : decode cX4_wall 74 = .ok (.getfield 73, 3) := by decide +kernel
theorem dX4_wall_77 : decode cX4_wall 77 = .ok (.ifCond .ne 7, 3) := by decide +kernel
theorem dX4_wall_80 : decode cX4_wall 80 = .ok (.iconst 1, 1) := by decide +kernel
theorem dX4_wall_81 : decode cX4_wall 81 = .ok (.goto 4, 3) := by decide +kernel
theorem dX4_wall_84 : decode cX4_wall 84 = .ok (.iconst 0, 1) := by decide +kernel
theorem dX4_wall_85 : decode cX4_wall 85 = .ok (.istore 6, 2) := by decide +kernel
theorem dX4_wall_87 : decode cX4_wall 87 = .ok (.aload_n 0, 1) := by decide +kernel
theorem dX4_wall_88 : decode cX4_wall 88 = .ok (.iload_n 3, 1) := by decide +kernel
theorem dX4_wall_89 : decode cX4_wall 89 = .ok (.iload 6, 2) := by decide +kernel
theorem dX4_wall_91 : decode cX4_wall 91 = .ok (.iload_n 3, 1) := by decide +kernel
theorem dX4_wall_92 : decode cX4_wall 92 = .ok (.ifCond .eq 24, 3) := by decide +kernel
theorem dX4_wall_95 : decode cX4_wall 95 = .ok (.iload 6, 2) := by decide +kernel
theorem dX4_wall_97 : decode cX4_wall 97 = .ok (.ifCond .eq 19, 3) := by decide +kernel
theorem dX4_wall_100 : decode cX4_wall 100 = .ok (.aload_n 0, 1) := by decide +kernel
theorem dX4_wall_101 : decode cX4_wall 101 = .ok (.iload 4, 2) := by decide +kernel
theorem dX4_wall_103 : decode cX4_wall 103 = .ok (.iload 5, 2) := by decide +kernel
theorem dX4_wall_105 : decode cX4_wall 105 = .ok (.iload_n 2, 1) := by decide +kernel
theorem dX4_wall_106 : decode cX4_wall 106 = .ok (.invokevirtual 97, 3) := by decide +kernel
theorem dX4_wall_109 : decode cX4_wall 109 = .ok (.ifCond .eq 7, 3) := by decide +kernel
theorem dX4_wall_112 : decode cX4_wall 112 = .ok (.iconst 1, 1) := by decide +kernel
theorem dX4_wall_113 : decode cX4_wall 113 = .ok (.goto 4, 3) := by decide +kernel
theorem dX4_wall_116 : decode cX4_wall 116 = .ok (.iconst 0, 1) := by decide +kernel
theorem dX4_wall_117 : decode cX4_wall 117 = .ok (.invokevirtual 65, 3) := by decide +kernel
theorem dX4_wall_120 : decode cX4_wall 120 = .ok (.ifCond .ne 5, 3) := by decide +kernel
theorem dX4_wall_123 : decode cX4_wall 123 = .ok (.iconst 0, 1) := by decide +kernel
theorem dX4_wall_124 : decode cX4_wall 124 = .ok (.ireturn, 1) := by decide +kernel
theorem dX4_wall_125 : decode cX4_wall 125 = .ok (.iconst 1, 1) := by decide +kernel
theorem dX4_wall_126 : decode cX4_wall 126 = .ok (.istore 7, 2) := by decide +kernel
theorem dX4_wall_128 : decode cX4_wall 128 = .ok (.iload 7, 2) := by decide +kernel
theorem dX4_wall_130 : decode cX4_wall 130 = .ok (.iload_n 2, 1) := by decide +kernel
theorem dX4_wall_131 : decode cX4_wall 131 = .ok (.if_icmp .gt 93, 3) := by decide +kernel
theorem dX4_wall_134 : decode cX4_wall 134 = .ok (.bipush 41, 2) := by decide +kernel
theorem dX4_wall_136 : decode cX4_wall 136 = .ok (.aload_n 0, 1) := by decide +kernel
theorem dX4_wall_137 : decode cX4_wall 137 = .ok (.getfield 82, 3) := by decide +kernel
theorem dX4_wall_140 : decode cX4_wall 140 = .ok (.iload 7, 2) := by decide +kernel
theorem dX4_wall_142 : decode cX4_wall 142 = .ok (.iload 4, 2) := by decide +kernel
theorem dX4_wall_144 : decode cX4_wall 144 = .ok (.imul, 1) := by decide +kernel
theorem dX4_wall_145 : decode cX4_wall 145 = .ok (.iadd, 1) := by decide +kernel
theorem dX4_wall_146 : decode cX4_wall 146 = .ok (.imul, 1) := by decide +kernel
theorem dX4_wall_147 : decode cX4_wall 147 = .ok (.aload_n 0, 1) := by decide +kernel
theorem dX4_wall_148 : decode cX4_wall 148 = .ok (.getfield 85, 3) := by decide +kernel
theorem dX4_wall_151 : decode cX4_wall 151 = .ok (.iadd, 1) := by decide +kernel
theorem dX4_wall_152 : decode cX4_wall 152 = .ok (.iload 7, 2) := by decide +kernel
theorem dX4_wall_154 : decode cX4_wall 154 = .ok (.iload 5, 2) := by decide +kernel
theorem dX4_wall_156 : decode cX4_wall 156 = .ok (.imul, 1) := by decide +kernel
theorem dX4_wall_157 : decode cX4_wall 157 = .ok (.iadd, 1) := by decide +kernel
theorem dX4_wall_158 : decode cX4_wall 158 = .ok (.istore 8, 2) := by decide +kernel
theorem dX4_wall_160 : decode cX4_wall 160 = .ok (.aload_n 0, 1) := by decide +kernel
theorem dX4_wall_161 : decode cX4_wall 161 = .ok (.aload_n 0, 1) := by decide +kernel
theorem dX4_wall_162 : decode cX4_wall 162 = .ok (.getfield 73, 3) := by decide +kernel
theorem dX4_wall_165 : decode cX4_wall 165 = .ok (.ifCond .ne 13, 3) := by decide +kernel
theorem dX4_wall_168 : decode cX4_wall 168 = .ok (.aload_n 0, 1) := by decide +kernel
theorem dX4_wall_169 : decode cX4_wall 169 = .ok (.getfield 7, 3) := by decide +kernel
theorem dX4_wall_172 : decode cX4_wall 172 = .ok (.iload 8, 2) := by decide +kernel
theorem dX4_wall_174 : decode cX4_wall 174 = .ok (.baload, 1) := by decide +kernel
theorem dX4_wall_175 : decode cX4_wall 175 = .ok (.ifCond .eq 7, 3) := by decide +kernel
theorem dX4_wall_178 : decode cX4_wall 178 = .ok (.iconst 1, 1) := by decide +kernel
theorem dX4_wall_179 : decode cX4_wall 179 = .ok (.goto 4, 3) := by decide +kernel
theorem dX4_wall_182 : decode cX4_wall 182 = .ok (.iconst 0, 1) := by decide +kernel
theorem dX4_wall_183 : decode cX4_wall 183 = .ok (.putfield 73, 3) := by decide +kernel
theorem dX4_wall_186 : decode cX4_wall 186 = .ok (.aload_n 0, 1) := by decide +kernel
theorem dX4_wall_187 : decode cX4_wall 187 = .ok (.dup, 1) := by decide +kernel
theorem dX4_wall_188 : decode cX4_wall 188 = .ok (.getfield 88, 3) := by decide +kernel
theorem dX4_wall_191 : decode cX4_wall 191 = .ok (.aload_n 0, 1) := by decide +kernel
theorem dX4_wall_192 : decode cX4_wall 192 = .ok (.getfield 7, 3) := by decide +kernel
theorem dX4_wall_195 : decode cX4_wall 195 = .ok (.iload 8, 2) := by decide +kernel
theorem dX4_wall_197 : decode cX4_wall 197 = .ok (.baload, 1) := by decide +kernel
theorem dX4_wall_198 : decode cX4_wall 198 = .ok (.ifCond .eq 7, 3) := by decide +kernel
theorem dX4_wall_201 : decode cX4_wall 201 = .ok (.iconst 0, 1) := by decide +kernel
theorem dX4_wall_202 : decode cX4_wall 202 = .ok (.goto 4, 3) := by decide +kernel
theorem dX4_wall_205 : decode cX4_wall 205 = .ok (.iconst 1, 1) := by decide +kernel
theorem dX4_wall_206 : decode cX4_wall 206 = .ok (.iadd, 1) := by decide +kernel
theorem dX4_wall_207 : decode cX4_wall 207 = .ok (.putfield 88, 3) := by decide +kernel
theorem dX4_wall_210 : decode cX4_wall 210 = .ok (.aload_n 0, 1) := by decide +kernel
theorem dX4_wall_211 : decode cX4_wall 211 = .ok (.getfield 7, 3) := by decide +kernel
theorem dX4_wall_214 : decode cX4_wall 214 = .ok (.iload 8, 2) := by decide +kernel
theorem dX4_wall_216 : decode cX4_wall 216 = .ok (.iconst 1, 1) := by decide +kernel
theorem dX4_wall_217 : decode cX4_wall 217 = .ok (.bastore, 1) := by decide +kernel
theorem dX4_wall_218 : decode cX4_wall 218 = .ok (.iinc 7 1, 3) := by decide +kernel
theorem dX4_wall_221 : decode cX4_wall 221 = .ok (.goto (-93), 3) := by decide +kernel
theorem dX4_wall_224 : decode cX4_wall 224 = .ok (.aload_n 0, 1) := by decide +kernel
theorem dX4_wall_225 : decode cX4_wall 225 = .ok (.dup, 1) := by decide +kernel
theorem dX4_wall_226 : decode cX4_wall 226 = .ok (.getfield 91, 3) := by decide +kernel
theorem dX4_wall_229 : decode cX4_wall 229 = .ok (.aload_n 0, 1) := by decide +kernel
theorem dX4_wall_230 : decode cX4_wall 230 = .ok (.getfield 82, 3) := by decide +kernel
theorem dX4_wall_233 : decode cX4_wall 233 = .ok (.aload_n 0, 1) := by decide +kernel
theorem dX4_wall_234 : decode cX4_wall 234 = .ok (.getfield 85, 3) := by decide +kernel
theorem dX4_wall_237 : decode cX4_wall 237 = .ok (.iload_n 2, 1) := by decide +kernel
theorem dX4_wall_238 : decode cX4_wall 238 = .ok (.iload 5, 2) := by decide +kernel
theorem dX4_wall_240 : decode cX4_wall 240 = .ok (.imul, 1) := by decide +kernel
theorem dX4_wall_241 : decode cX4_wall 241 = .ok (.iadd, 1) := by decide +kernel
theorem dX4_wall_242 : decode cX4_wall 242 = .ok (.imul, 1) := by decide +kernel
theorem dX4_wall_243 : decode cX4_wall 243 = .ok (.aload_n 0, 1) := by decide +kernel
theorem dX4_wall_244 : decode cX4_wall 244 = .ok (.getfield 82, 3) := by decide +kernel
theorem dX4_wall_247 : decode cX4_wall 247 = .ok (.iload_n 2, 1) := by decide +kernel
theorem dX4_wall_248 : decode cX4_wall 248 = .ok (.iload 4, 2) := by decide +kernel
theorem dX4_wall_250 : decode cX4_wall 250 = .ok (.imul, 1) := by decide +kernel
theorem dX4_wall_251 : decode cX4_wall 251 = .ok (.iadd, 1) := by decide +kernel
theorem dX4_wall_252 : decode cX4_wall 252 = .ok (.aload_n 0, 1) := by decide +kernel
theorem dX4_wall_253 : decode cX4_wall 253 = .ok (.getfield 85, 3) := by decide +kernel
theorem dX4_wall_256 : decode cX4_wall 256 = .ok (.imul, 1) := by decide +kernel
theorem dX4_wall_257 : decode cX4_wall 257 = .ok (.isub, 1) := by decide +kernel
theorem dX4_wall_258 : decode cX4_wall 258 = .ok (.iadd, 1) := by decide +kernel
theorem dX4_wall_259 : decode cX4_wall 259 = .ok (.putfield 91, 3) := by decide +kernel
theorem dX4_wall_262 : decode cX4_wall 262 = .ok (.aload_n 0, 1) := by decide +kernel
theorem dX4_wall_263 : decode cX4_wall 263 = .ok (.dup, 1) := by decide +kernel
theorem dX4_wall_264 : decode cX4_wall 264 = .ok (.getfield 82, 3) := by decide +kernel
theorem dX4_wall_267 : decode cX4_wall 267 = .ok (.iload_n 2, 1) := by decide +kernel
theorem dX4_wall_268 : decode cX4_wall 268 = .ok (.iload 4, 2) := by decide +kernel
theorem dX4_wall_270 : decode cX4_wall 270 = .ok (.imul, 1) := by decide +kernel
theorem dX4_wall_271 : decode cX4_wall 271 = .ok (.iadd, 1) := by decide +kernel
theorem dX4_wall_272 : decode cX4_wall 272 = .ok (.putfield 82, 3) := by decide +kernel
theorem dX4_wall_275 : decode cX4_wall 275 = .ok (.aload_n 0, 1) := by decide +kernel
theorem dX4_wall_276 : decode cX4_wall 276 = .ok (.dup, 1) := by decide +kernel
theorem dX4_wall_277 : decode cX4_wall 277 = .ok (.getfield 85, 3) := by decide +kernel
theorem dX4_wall_280 : decode cX4_wall 280 = .ok (.iload_n 2, 1) := by decide +kernel
theorem dX4_wall_281 : decode cX4_wall 281 = .ok (.iload 5, 2) := by decide +kernel
theorem dX4_wall_283 : decode cX4_wall 283 = .ok (.imul, 1) := by decide +kernel
theorem dX4_wall_284 : decode cX4_wall 284 = .ok (.iadd, 1) := by decide +kernel
theorem dX4_wall_285 : decode cX4_wall 285 = .ok (.putfield 85, 3) := by decide +kernel
theorem dX4_wall_288 : decode cX4_wall 288 = .ok (.aload_n 0, 1) := by decide +kernel
theorem dX4_wall_289 : decode cX4_wall 289 = .ok (.getfield 73, 3) := by decide +kernel
theorem dX4_wall_292 : decode cX4_wall 292 = .ok (.ireturn, 1) := by decide +kernel
set_option maxRecDepth 20000 in
theorem ggX4_opening_X4_in : GoodIn wsX4_opening wsX4_in := goodIn_r _ [8] (by decide +kernel) (by decide +kernel)
set_option maxRecDepth 20000 in
theorem gX4_opening_X4_in : GoodIn wsX4_opening (va_wsS RX4 58 yX4_in wsX4_in) := goodIn_app (goodIn_of _ (by decide +kernel)) ggX4_opening_X4_in
set_option maxRecDepth 20000 in
theorem ggX4_opening_X4_goes : GoodIn wsX4_opening wsX4_goes := goodIn_r _ [12, 13, 14, 15, 16, 17, 18, 19, 20, 21, 22, 23, 24, 25, 26, 27, 28, 29, 30, 31, 32, 33, 34, 35, 36, 37, 38, 39] (by decide +kernel) (by decide +kernel)
set_option maxRecDepth 20000 in
theorem gX4_opening_X4_goes : GoodIn wsX4_opening (wsV RX4 65 RX4 yX4_goes wsX4_goes) := goodIn_app (goodIn_of _ (by decide +kernel)) ggX4_opening_X4_goes
theorem dX4_opening_0 : decode cX4_opening 0 = .ok (.iload_n 1, 1) := by decide +kernel
theorem dX4_opening_1 : decode cX4_opening 1 = .ok (.iconst 1, 1) := by decide +kernel
theorem dX4_opening_2 : decode cX4_opening 2 = .ok (.bipush 40, 2) := by decide +kernel
theorem dX4_opening_4 : decode cX4_opening 4 = .ok (.invokestatic 58, 3) := by decide +kernel
theorem dX4_opening_7 : decode cX4_opening 7 = .ok (.ifCond .eq 17, 3) := by decide +kernel
theorem dX4_opening_10 : decode cX4_opening 10 = .ok (.iload_n 2, 1) := by decide +kernel
theorem dX4_opening_11 : decode cX4_opening 11 = .ok (.iconst 1, 1) := by decide +kernel
theorem dX4_opening_12 : decode cX4_opening 12 = .ok (.bipush 40, 2) := by decide +kernel
theorem dX4_opening_14 : decode cX4_opening 14 = .ok (.invokestatic 58, 3) := by decide +kernel
theorem dX4_opening_17 : decode cX4_opening 17 = .ok (.ifCond .eq 7, 3) := by decide +kernel
theorem dX4_opening_20 : decode cX4_opening 20 = .ok (.iconst 1, 1) := by decide +kernel
theorem dX4_opening_21 : decode cX4_opening 21 = .ok (.goto 4, 3) := by decide +kernel
theorem dX4_opening_24 : decode cX4_opening 24 = .ok (.iconst 0, 1) := by decide +kernel
theorem dX4_opening_25 : decode cX4_opening 25 = .ok (.istore_n 3, 1) := by decide +kernel
theorem dX4_opening_26 : decode cX4_opening 26 = .ok (.aload_n 0, 1) := by decide +kernel
theorem dX4_opening_27 : decode cX4_opening 27 = .ok (.iload_n 3, 1) := by decide +kernel
theorem dX4_opening_28 : decode cX4_opening 28 = .ok (.aload_n 0, 1) := by decide +kernel
theorem dX4_opening_29 : decode cX4_opening 29 = .ok (.getfield 69, 3) := by decide +kernel
theorem dX4_opening_32 : decode cX4_opening 32 = .ok (.ifCond .eq 23, 3) := by decide +kernel
theorem dX4_opening_35 : decode cX4_opening 35 = .ok (.aload_n 0, 1) := by decide +kernel
theorem dX4_opening_36 : decode cX4_opening 36 = .ok (.getfield 73, 3) := by decide +kernel
theorem dX4_opening_39 : decode cX4_opening 39 = .ok (.ifCond .eq 16, 3) := by decide +kernel
theorem dX4_opening_42 : decode cX4_opening 42 = .ok (.aload_n 0, 1) := by decide +kernel
theorem dX4_opening_43 : decode cX4_opening 43 = .ok (.getfield 94, 3) := by decide +kernel
theorem dX4_opening_46 : decode cX4_opening 46 = .ok (.bipush 10, 2) := by decide +kernel
theorem dX4_opening_48 : decode cX4_opening 48 = .ok (.if_icmp .ge 7, 3) := by decide +kernel
theorem dX4_opening_51 : decode cX4_opening 51 = .ok (.iconst 1, 1) := by decide +kernel
theorem dX4_opening_52 : decode cX4_opening 52 = .ok (.goto 4, 3) := by decide +kernel
theorem dX4_opening_55 : decode cX4_opening 55 = .ok (.iconst 0, 1) := by decide +kernel
theorem dX4_opening_56 : decode cX4_opening 56 = .ok (.iconst 1, 1) := by decide +kernel
theorem dX4_opening_57 : decode cX4_opening 57 = .ok (.invokevirtual 65, 3) := by decide +kernel
theorem dX4_opening_60 : decode cX4_opening 60 = .ok (.ifCond .ne 5, 3) := by decide +kernel
theorem dX4_opening_63 : decode cX4_opening 63 = .ok (.iconst 0, 1) := by decide +kernel
theorem dX4_opening_64 : decode cX4_opening 64 = .ok (.ireturn, 1) := by decide +kernel
theorem dX4_opening_65 : decode cX4_opening 65 = .ok (.aload_n 0, 1) := by decide +kernel
theorem dX4_opening_66 : decode cX4_opening 66 = .ok (.getfield 13, 3) := by decide +kernel
theorem dX4_opening_69 : decode cX4_opening 69 = .ok (.aload_n 0, 1) := by decide +kernel
theorem dX4_opening_70 : decode cX4_opening 70 = .ok (.getfield 94, 3) := by decide +kernel
theorem dX4_opening_73 : decode cX4_opening 73 = .ok (.iload_n 1, 1) := by decide +kernel
theorem dX4_opening_74 : decode cX4_opening 74 = .ok (.iload_n 2, 1) := by decide +kernel
theorem dX4_opening_75 : decode cX4_opening 75 = .ok (.imul, 1) := by decide +kernel
theorem dX4_opening_76 : decode cX4_opening 76 = .ok (.iastore, 1) := by decide +kernel
theorem dX4_opening_77 : decode cX4_opening 77 = .ok (.aload_n 0, 1) := by decide +kernel
theorem dX4_opening_78 : decode cX4_opening 78 = .ok (.dup, 1) := by decide +kernel
theorem dX4_opening_79 : decode cX4_opening 79 = .ok (.getfield 94, 3) := by decide +kernel
theorem dX4_opening_82 : decode cX4_opening 82 = .ok (.iconst 1, 1) := by decide +kernel
theorem dX4_opening_83 : decode cX4_opening 83 = .ok (.iadd, 1) := by decide +kernel
theorem dX4_opening_84 : decode cX4_opening 84 = .ok (.putfield 94, 3) := by decide +kernel
theorem dX4_opening_87 : decode cX4_opening 87 = .ok (.aload_n 0, 1) := by decide +kernel
theorem dX4_opening_88 : decode cX4_opening 88 = .ok (.getfield 94, 3) := by decide +kernel
theorem dX4_opening_91 : decode cX4_opening 91 = .ok (.ireturn, 1) := by decide +kernel
set_option maxRecDepth 20000 in
theorem ggX4_limit_X4_in : GoodIn wsX4_limit wsX4_in := goodIn_r _ [5] (by decide +kernel) (by decide +kernel)
set_option maxRecDepth 20000 in
theorem gX4_limit_X4_in : GoodIn wsX4_limit (va_wsS RX4 58 yX4_in wsX4_in) := goodIn_app (goodIn_of _ (by decide +kernel)) ggX4_limit_X4_in
set_option maxRecDepth 20000 in
theorem ggX4_limit_X4_goes : GoodIn wsX4_limit wsX4_goes := goodIn_r _ [9, 10, 11, 12, 13, 14, 15, 16, 17, 18, 19, 20, 21, 22, 23, 24, 25, 26, 27, 28, 29, 30, 31, 32, 33, 34, 35, 36] (by decide +kernel) (by decide +kernel)
set_option maxRecDepth 20000 in
theorem gX4_limit_X4_goes : GoodIn wsX4_limit (wsV RX4 65 RX4 yX4_goes wsX4_goes) := goodIn_app (goodIn_of _ (by decide +kernel)) ggX4_limit_X4_goes
theorem dX4_limit_0 : decode cX4_limit 0 = .ok (.aload_n 0, 1) := by decide +kernel
theorem dX4_limit_1 : decode cX4_limit 1 = .ok (.iload_n 1, 1) := by decide +kernel
theorem dX4_limit_2 : decode cX4_limit 2 = .ok (.iconst 0, 1) := by decide +kernel
theorem dX4_limit_3 : decode cX4_limit 3 = .ok (.sipush 1600, 3) := by decide +kernel
theorem dX4_limit_6 : decode cX4_limit 6 = .ok (.invokestatic 58, 3) := by decide +kernel
theorem dX4_limit_9 : decode cX4_limit 9 = .ok (.iconst 1, 1) := by decide +kernel
theorem dX4_limit_10 : decode cX4_limit 10 = .ok (.iconst 1, 1) := by decide +kernel
theorem dX4_limit_11 : decode cX4_limit 11 = .ok (.invokevirtual 65, 3) := by decide +kernel
theorem dX4_limit_14 : decode cX4_limit 14 = .ok (.ifCond .ne 5, 3) := by decide +kernel
theorem dX4_limit_17 : decode cX4_limit 17 = .ok (.iconst 0, 1) := by decide +kernel
theorem dX4_limit_18 : decode cX4_limit 18 = .ok (.ireturn, 1) := by decide +kernel
theorem dX4_limit_19 : decode cX4_limit 19 = .ok (.aload_n 0, 1) := by decide +kernel
theorem dX4_limit_20 : decode cX4_limit 20 = .ok (.getfield 17, 3) := by decide +kernel
theorem dX4_limit_23 : decode cX4_limit 23 = .ok (.istore_n 2, 1) := by decide +kernel
theorem dX4_limit_24 : decode cX4_limit 24 = .ok (.aload_n 0, 1) := by decide +kernel
theorem dX4_limit_25 : decode cX4_limit 25 = .ok (.iload_n 1, 1) := by decide +kernel
theorem dX4_limit_26 : decode cX4_limit 26 = .ok (.putfield 17, 3) := by decide +kernel
theorem dX4_limit_29 : decode cX4_limit 29 = .ok (.iload_n 2, 1) := by decide +kernel
theorem dX4_limit_30 : decode cX4_limit 30 = .ok (.ireturn, 1) := by decide +kernel
theorem dX4_whole_0 : decode cX4_whole 0 = .ok (.aload_n 0, 1) := by decide +kernel
theorem dX4_whole_1 : decode cX4_whole 1 = .ok (.getfield 91, 3) := by decide +kernel
theorem dX4_whole_4 : decode cX4_whole 4 = .ok (.ifCond .ge 11, 3) := by decide +kernel
theorem dX4_whole_7 : decode cX4_whole 7 = .ok (.aload_n 0, 1) := by decide +kernel
theorem dX4_whole_8 : decode cX4_whole 8 = .ok (.getfield 91, 3) := by decide +kernel
theorem dX4_whole_11 : decode cX4_whole 11 = .ok (.ineg, 1) := by decide +kernel
theorem dX4_whole_12 : decode cX4_whole 12 = .ok (.goto 7, 3) := by decide +kernel
theorem dX4_whole_15 : decode cX4_whole 15 = .ok (.aload_n 0, 1) := by decide +kernel
theorem dX4_whole_16 : decode cX4_whole 16 = .ok (.getfield 91, 3) := by decide +kernel
theorem dX4_whole_19 : decode cX4_whole 19 = .ok (.iconst 2, 1) := by decide +kernel
theorem dX4_whole_20 : decode cX4_whole 20 = .ok (.idiv, 1) := by decide +kernel
theorem dX4_whole_21 : decode cX4_whole 21 = .ok (.ireturn, 1) := by decide +kernel
set_option maxRecDepth 20000 in
theorem ggX4_net_X4_whole : GoodIn wsX4_net wsX4_whole := goodIn_r _ [8, 9, 10, 11, 12, 13, 14, 15, 16, 17, 18, 19, 20, 21, 22, 23, 24, 25, 26, 27, 28, 29, 30, 31, 32, 33, 34, 35] (by decide +kernel) (by decide +kernel)
set_option maxRecDepth 20000 in
theorem gX4_net_X4_whole : GoodIn wsX4_net (wsV RX4 100 RX4 yX4_whole wsX4_whole) := goodIn_app (goodIn_of _ (by decide +kernel)) ggX4_net_X4_whole
theorem dX4_net_0 : decode cX4_net 0 = .ok (.aload_n 0, 1) := by decide +kernel
theorem dX4_net_1 : decode cX4_net 1 = .ok (.invokevirtual 100, 3) := by decide +kernel
theorem dX4_net_4 : decode cX4_net 4 = .ok (.istore_n 1, 1) := by decide +kernel
theorem dX4_net_5 : decode cX4_net 5 = .ok (.iconst 0, 1) := by decide +kernel
theorem dX4_net_6 : decode cX4_net 6 = .ok (.istore_n 2, 1) := by decide +kernel
theorem dX4_net_7 : decode cX4_net 7 = .ok (.iload_n 2, 1) := by decide +kernel
theorem dX4_net_8 : decode cX4_net 8 = .ok (.aload_n 0, 1) := by decide +kernel
theorem dX4_net_9 : decode cX4_net 9 = .ok (.getfield 94, 3) := by decide +kernel
theorem dX4_net_12 : decode cX4_net 12 = .ok (.if_icmp .ge 35, 3) := by decide +kernel
theorem dX4_net_15 : decode cX4_net 15 = .ok (.iload_n 1, 1) := by decide +kernel
theorem dX4_net_16 : decode cX4_net 16 = .ok (.aload_n 0, 1) := by decide +kernel
theorem dX4_net_17 : decode cX4_net 17 = .ok (.getfield 13, 3) := by decide +kernel
theorem dX4_net_20 : decode cX4_net 20 = .ok (.iload_n 2, 1) := by decide +kernel
theorem dX4_net_21 : decode cX4_net 21 = .ok (.iaload, 1) := by decide +kernel
theorem dX4_net_22 : decode cX4_net 22 = .ok (.aload_n 0, 1) := by decide +kernel
theorem dX4_net_23 : decode cX4_net 23 = .ok (.getfield 17, 3) := by decide +kernel
theorem dX4_net_26 : decode cX4_net 26 = .ok (.if_icmp .le 12, 3) := by decide +kernel
theorem dX4_net_29 : decode cX4_net 29 = .ok (.aload_n 0, 1) := by decide +kernel
theorem dX4_net_30 : decode cX4_net 30 = .ok (.getfield 13, 3) := by decide +kernel
theorem dX4_net_33 : decode cX4_net 33 = .ok (.iload_n 2, 1) := by decide +kernel
theorem dX4_net_34 : decode cX4_net 34 = .ok (.iaload, 1) := by decide +kernel
theorem dX4_net_35 : decode cX4_net 35 = .ok (.goto 4, 3) := by decide +kernel
theorem dX4_net_38 : decode cX4_net 38 = .ok (.iconst 0, 1) := by decide +kernel
theorem dX4_net_39 : decode cX4_net 39 = .ok (.isub, 1) := by decide +kernel
theorem dX4_net_40 : decode cX4_net 40 = .ok (.istore_n 1, 1) := by decide +kernel
theorem dX4_net_41 : decode cX4_net 41 = .ok (.iinc 2 1, 3) := by decide +kernel
theorem dX4_net_44 : decode cX4_net 44 = .ok (.goto (-37), 3) := by decide +kernel
theorem dX4_net_47 : decode cX4_net 47 = .ok (.iload_n 1, 1) := by decide +kernel
theorem dX4_net_48 : decode cX4_net 48 = .ok (.ifCond .ge 7, 3) := by decide +kernel
theorem dX4_net_51 : decode cX4_net 51 = .ok (.iconst 0, 1) := by decide +kernel
theorem dX4_net_52 : decode cX4_net 52 = .ok (.goto 4, 3) := by decide +kernel
theorem dX4_net_55 : decode cX4_net 55 = .ok (.iload_n 1, 1) := by decide +kernel
theorem dX4_net_56 : decode cX4_net 56 = .ok (.ireturn, 1) := by decide +kernel
set_option maxRecDepth 20000 in
theorem ggX4_area_X4_goes : GoodIn wsX4_area wsX4_goes := goodIn_r _ [7, 8, 14, 15, 16, 17, 18, 19, 20, 21, 22, 23, 24, 25, 26, 27, 28, 29, 30, 31, 32, 33, 34, 35, 36, 37, 38, 39] (by decide +kernel) (by decide +kernel)
set_option maxRecDepth 20000 in
theorem gX4_area_X4_goes : GoodIn wsX4_area (wsV RX4 65 RX4 yX4_goes wsX4_goes) := goodIn_app (goodIn_of _ (by decide +kernel)) ggX4_area_X4_goes
set_option maxRecDepth 20000 in
theorem ggX4_area_X4_whole : GoodIn wsX4_area wsX4_whole := goodIn_r _ [12, 13, 14, 15, 16, 17, 18, 19, 20, 21, 22, 23, 24, 25, 26, 27, 28, 29, 30, 31, 32, 33, 34, 35, 36, 37, 38, 39] (by decide +kernel) (by decide +kernel)
set_option maxRecDepth 20000 in
theorem gX4_area_X4_whole : GoodIn wsX4_area (wsV RX4 100 RX4 yX4_whole wsX4_whole) := goodIn_app (goodIn_of _ (by decide +kernel)) ggX4_area_X4_whole
theorem dX4_area_0 : decode cX4_area 0 = .ok (.aload_n 0, 1) := by decide +kernel
theorem dX4_area_1 : decode cX4_area 1 = .ok (.aload_n 0, 1) := by decide +kernel
theorem dX4_area_2 : decode cX4_area 2 = .ok (.getfield 69, 3) := by decide +kernel
theorem dX4_area_5 : decode cX4_area 5 = .ok (.ifCond .eq 14, 3) := by decide +kernel
theorem dX4_area_8 : decode cX4_area 8 = .ok (.aload_n 0, 1) := by decide +kernel
theorem dX4_area_9 : decode cX4_area 9 = .ok (.getfield 73, 3) := by decide +kernel
theorem dX4_area_12 : decode cX4_area 12 = .ok (.ifCond .eq 7, 3) := by decide +kernel
theorem dX4_area_15 : decode cX4_area 15 = .ok (.iconst 1, 1) := by decide +kernel
theorem dX4_area_16 : decode cX4_area 16 = .ok (.goto 4, 3) := by decide +kernel
theorem dX4_area_19 : decode cX4_area 19 = .ok (.iconst 0, 1) := by decide +kernel
theorem dX4_area_20 : decode cX4_area 20 = .ok (.iconst 1, 1) := by decide +kernel
theorem dX4_area_21 : decode cX4_area 21 = .ok (.iconst 1, 1) := by decide +kernel
theorem dX4_area_22 : decode cX4_area 22 = .ok (.invokevirtual 65, 3) := by decide +kernel
theorem dX4_area_25 : decode cX4_area 25 = .ok (.ifCond .eq 10, 3) := by decide +kernel
theorem dX4_area_28 : decode cX4_area 28 = .ok (.aload_n 0, 1) := by decide +kernel
theorem dX4_area_29 : decode cX4_area 29 = .ok (.invokevirtual 100, 3) := by decide +kernel
theorem dX4_area_32 : decode cX4_area 32 = .ok (.goto 4, 3) := by decide +kernel
theorem dX4_area_35 : decode cX4_area 35 = .ok (.iconst 0, 1) := by decide +kernel
theorem dX4_area_36 : decode cX4_area 36 = .ok (.ireturn, 1) := by decide +kernel
set_option maxRecDepth 20000 in
theorem ggX4_areaByStrips_X4_area : GoodIn wsX4_areaByStrips wsX4_area := goodIn_r _ [5, 6, 7, 8, 9, 10, 4, 11, 12, 13, 14, 15, 16, 17, 18, 19, 20, 21, 22, 23, 24, 25, 26, 27, 28, 29, 30, 31, 32, 33, 34, 35, 36, 37, 38, 39, 40, 41, 42, 43] (by decide +kernel) (by decide +kernel)
set_option maxRecDepth 20000 in
theorem gX4_areaByStrips_X4_area : GoodIn wsX4_areaByStrips (wsV RX4 104 RX4 yX4_area wsX4_area) := goodIn_app (goodIn_of _ (by decide +kernel)) ggX4_areaByStrips_X4_area
theorem dX4_areaByStrips_0 : decode cX4_areaByStrips 0 = .ok (.aload_n 0, 1) := by decide +kernel
theorem dX4_areaByStrips_1 : decode cX4_areaByStrips 1 = .ok (.invokevirtual 104, 3) := by decide +kernel
theorem dX4_areaByStrips_4 : decode cX4_areaByStrips 4 = .ok (.ireturn, 1) := by decide +kernel
set_option maxRecDepth 20000 in
theorem ggX4_netArea_X4_goes : GoodIn wsX4_netArea wsX4_goes := goodIn_r _ [7, 8, 21, 22, 23, 24, 25, 26, 27, 28, 29, 30, 31, 32, 33, 34, 35, 36, 37, 38, 39, 40, 41, 42, 43, 44, 45, 46] (by decide +kernel) (by decide +kernel)
set_option maxRecDepth 20000 in
theorem gX4_netArea_X4_goes : GoodIn wsX4_netArea (wsV RX4 65 RX4 yX4_goes wsX4_goes) := goodIn_app (goodIn_of _ (by decide +kernel)) ggX4_netArea_X4_goes
set_option maxRecDepth 20000 in
theorem ggX4_netArea_X4_net : GoodIn wsX4_netArea wsX4_net := goodIn_r _ [12, 13, 14, 15, 16, 17, 18, 6, 19, 20, 21, 22, 23, 24, 25, 26, 27, 28, 29, 30, 31, 32, 33, 34, 35, 36, 37, 38, 39, 40, 41, 42, 43, 44, 45, 46] (by decide +kernel) (by decide +kernel)
set_option maxRecDepth 20000 in
theorem gX4_netArea_X4_net : GoodIn wsX4_netArea (wsV RX4 107 RX4 yX4_net wsX4_net) := goodIn_app (goodIn_of _ (by decide +kernel)) ggX4_netArea_X4_net
theorem dX4_netArea_0 : decode cX4_netArea 0 = .ok (.aload_n 0, 1) := by decide +kernel
theorem dX4_netArea_1 : decode cX4_netArea 1 = .ok (.aload_n 0, 1) := by decide +kernel
theorem dX4_netArea_2 : decode cX4_netArea 2 = .ok (.getfield 69, 3) := by decide +kernel
theorem dX4_netArea_5 : decode cX4_netArea 5 = .ok (.ifCond .eq 14, 3) := by decide +kernel
theorem dX4_netArea_8 : decode cX4_netArea 8 = .ok (.aload_n 0, 1) := by decide +kernel
theorem dX4_netArea_9 : decode cX4_netArea 9 = .ok (.getfield 73, 3) := by decide +kernel
theorem dX4_netArea_12 : decode cX4_netArea 12 = .ok (.ifCond .eq 7, 3) := by decide +kernel
theorem dX4_netArea_15 : decode cX4_netArea 15 = .ok (.iconst 1, 1) := by decide +kernel
theorem dX4_netArea_16 : decode cX4_netArea 16 = .ok (.goto 4, 3) := by decide +kernel
theorem dX4_netArea_19 : decode cX4_netArea 19 = .ok (.iconst 0, 1) := by decide +kernel
theorem dX4_netArea_20 : decode cX4_netArea 20 = .ok (.iconst 1, 1) := by decide +kernel
theorem dX4_netArea_21 : decode cX4_netArea 21 = .ok (.iconst 1, 1) := by decide +kernel
theorem dX4_netArea_22 : decode cX4_netArea 22 = .ok (.invokevirtual 65, 3) := by decide +kernel
theorem dX4_netArea_25 : decode cX4_netArea 25 = .ok (.ifCond .eq 10, 3) := by decide +kernel
theorem dX4_netArea_28 : decode cX4_netArea 28 = .ok (.aload_n 0, 1) := by decide +kernel
theorem dX4_netArea_29 : decode cX4_netArea 29 = .ok (.invokevirtual 107, 3) := by decide +kernel
theorem dX4_netArea_32 : decode cX4_netArea 32 = .ok (.goto 4, 3) := by decide +kernel
theorem dX4_netArea_35 : decode cX4_netArea 35 = .ok (.iconst 0, 1) := by decide +kernel
theorem dX4_netArea_36 : decode cX4_netArea 36 = .ok (.ireturn, 1) := by decide +kernel
set_option maxRecDepth 20000 in
theorem ggX4_rate_X4_in : GoodIn wsX4_rate wsX4_in := goodIn_r _ [6] (by decide +kernel) (by decide +kernel)
set_option maxRecDepth 20000 in
theorem gX4_rate_X4_in : GoodIn wsX4_rate (va_wsS RX4 58 yX4_in wsX4_in) := goodIn_app (goodIn_of _ (by decide +kernel)) ggX4_rate_X4_in
set_option maxRecDepth 20000 in
theorem ggX4_rate_X4_goes : GoodIn wsX4_rate wsX4_goes := goodIn_r _ [10, 11, 12, 13, 14, 15, 16, 17, 18, 19, 20, 21, 22, 23, 24, 25, 26, 27, 28, 29, 30, 31, 32, 33, 34, 35, 36, 37] (by decide +kernel) (by decide +kernel)
set_option maxRecDepth 20000 in
theorem gX4_rate_X4_goes : GoodIn wsX4_rate (wsV RX4 65 RX4 yX4_goes wsX4_goes) := goodIn_app (goodIn_of _ (by decide +kernel)) ggX4_rate_X4_goes
theorem dX4_rate_0 : decode cX4_rate 0 = .ok (.iload_n 1, 1) := by decide +kernel
theorem dX4_rate_1 : decode cX4_rate 1 = .ok (.iconst 0, 1) := by decide +kernel
theorem dX4_rate_2 : decode cX4_rate 2 = .ok (.bipush 50, 2) := by decide +kernel
theorem dX4_rate_4 : decode cX4_rate 4 = .ok (.invokestatic 58, 3) := by decide +kernel
theorem dX4_rate_7 : decode cX4_rate 7 = .ok (.ifCond .eq 27, 3) := by decide +kernel
theorem dX4_rate_10 : decode cX4_rate 10 = .ok (.iload_n 2, 1) := by decide +kernel
theorem dX4_rate_11 : decode cX4_rate 11 = .ok (.iconst 0, 1) := by decide +kernel
theorem dX4_rate_12 : decode cX4_rate 12 = .ok (.bipush 50, 2) := by decide +kernel
theorem dX4_rate_14 : decode cX4_rate 14 = .ok (.invokestatic 58, 3) := by decide +kernel
theorem dX4_rate_17 : decode cX4_rate 17 = .ok (.ifCond .eq 17, 3) := by decide +kernel
theorem dX4_rate_20 : decode cX4_rate 20 = .ok (.iload_n 3, 1) := by decide +kernel
theorem dX4_rate_21 : decode cX4_rate 21 = .ok (.iconst 0, 1) := by decide +kernel
theorem dX4_rate_22 : decode cX4_rate 22 = .ok (.bipush 50, 2) := by decide +kernel
theorem dX4_rate_24 : decode cX4_rate 24 = .ok (.invokestatic 58, 3) := by decide +kernel
theorem dX4_rate_27 : decode cX4_rate 27 = .ok (.ifCond .eq 7, 3) := by decide +kernel
theorem dX4_rate_30 : decode cX4_rate 30 = .ok (.iconst 1, 1) := by decide +kernel
theorem dX4_rate_31 : decode cX4_rate 31 = .ok (.goto 4, 3) := by decide +kernel
theorem dX4_rate_34 : decode cX4_rate 34 = .ok (.iconst 0, 1) := by decide +kernel
theorem dX4_rate_35 : decode cX4_rate 35 = .ok (.istore 4, 2) := by decide +kernel
theorem dX4_rate_37 : decode cX4_rate 37 = .ok (.iconst (-1), 1) := by decide +kernel
theorem dX4_rate_38 : decode cX4_rate 38 = .ok (.istore 5, 2) := by decide +kernel
theorem dX4_rate_40 : decode cX4_rate 40 = .ok (.iconst 0, 1) := by decide +kernel
theorem dX4_rate_41 : decode cX4_rate 41 = .ok (.istore 6, 2) := by decide +kernel
theorem dX4_rate_43 : decode cX4_rate 43 = .ok (.iload 6, 2) := by decide +kernel
theorem dX4_rate_45 : decode cX4_rate 45 = .ok (.aload_n 0, 1) := by decide +kernel
theorem dX4_rate_46 : decode cX4_rate 46 = .ok (.getfield 62, 3) := by decide +kernel
theorem dX4_rate_49 : decode cX4_rate 49 = .ok (.if_icmp .ge 61, 3) := by decide +kernel
theorem dX4_rate_52 : decode cX4_rate 52 = .ok (.aload_n 0, 1) := by decide +kernel
theorem dX4_rate_53 : decode cX4_rate 53 = .ok (.getfield 21, 3) := by decide +kernel
theorem dX4_rate_56 : decode cX4_rate 56 = .ok (.iconst 3, 1) := by decide +kernel
theorem dX4_rate_57 : decode cX4_rate 57 = .ok (.iload 6, 2) := by decide +kernel
theorem dX4_rate_59 : decode cX4_rate 59 = .ok (.imul, 1) := by decide +kernel
theorem dX4_rate_60 : decode cX4_rate 60 = .ok (.iaload, 1) := by decide +kernel
theorem dX4_rate_61 : decode cX4_rate 61 = .ok (.iload_n 1, 1) := by decide +kernel
theorem dX4_rate_62 : decode cX4_rate 62 = .ok (.if_icmp .ne 38, 3) := by decide +kernel
theorem dX4_rate_65 : decode cX4_rate 65 = .ok (.aload_n 0, 1) := by decide +kernel
theorem dX4_rate_66 : decode cX4_rate 66 = .ok (.getfield 21, 3) := by decide +kernel
theorem dX4_rate_69 : decode cX4_rate 69 = .ok (.iconst 3, 1) := by decide +kernel
theorem dX4_rate_70 : decode cX4_rate 70 = .ok (.iload 6, 2) := by decide +kernel
theorem dX4_rate_72 : decode cX4_rate 72 = .ok (.imul, 1) := by decide +kernel
theorem dX4_rate_73 : decode cX4_rate 73 = .ok (.iconst 1, 1) := by decide +kernel
theorem dX4_rate_74 : decode cX4_rate 74 = .ok (.iadd, 1) := by decide +kernel
theorem dX4_rate_75 : decode cX4_rate 75 = .ok (.iaload, 1) := by decide +kernel
theorem dX4_rate_76 : decode cX4_rate 76 = .ok (.iload_n 2, 1) := by decide +kernel
theorem dX4_rate_77 : decode cX4_rate 77 = .ok (.if_icmp .ne 23, 3) := by decide +kernel
theorem dX4_rate_80 : decode cX4_rate 80 = .ok (.aload_n 0, 1) := by decide +kernel
theorem dX4_rate_81 : decode cX4_rate 81 = .ok (.getfield 21, 3) := by decide +kernel
theorem dX4_rate_84 : decode cX4_rate 84 = .ok (.iconst 3, 1) := by decide +kernel
theorem dX4_rate_85 : decode cX4_rate 85 = .ok (.iload 6, 2) := by decide +kernel
theorem dX4_rate_87 : decode cX4_rate 87 = .ok (.imul, 1) := by decide +kernel
theorem dX4_rate_88 : decode cX4_rate 88 = .ok (.iconst 2, 1) := by decide +kernel
theorem dX4_rate_89 : decode cX4_rate 89 = .ok (.iadd, 1) := by decide +kernel
theorem dX4_rate_90 : decode cX4_rate 90 = .ok (.iaload, 1) := by decide +kernel
theorem dX4_rate_91 : decode cX4_rate 91 = .ok (.iload_n 3, 1) := by decide +kernel
theorem dX4_rate_92 : decode cX4_rate 92 = .ok (.if_icmp .ne 8, 3) := by decide +kernel
theorem dX4_rate_95 : decode cX4_rate 95 = .ok (.iload 6, 2) := by decide +kernel
theorem dX4_rate_97 : decode cX4_rate 97 = .ok (.goto 5, 3) := by decide +kernel
theorem dX4_rate_100 : decode cX4_rate 100 = .ok (.iload 5, 2) := by decide +kernel
theorem dX4_rate_102 : decode cX4_rate 102 = .ok (.istore 5, 2) := by decide +kernel
theorem dX4_rate_104 : decode cX4_rate 104 = .ok (.iinc 6 1, 3) := by decide +kernel
theorem dX4_rate_107 : decode cX4_rate 107 = .ok (.goto (-64), 3) := by decide +kernel
theorem dX4_rate_110 : decode cX4_rate 110 = .ok (.aload_n 0, 1) := by decide +kernel
theorem dX4_rate_111 : decode cX4_rate 111 = .ok (.iload 4, 2) := by decide +kernel
theorem dX4_rate_113 : decode cX4_rate 113 = .ok (.iload 5, 2) := by decide +kernel
theorem dX4_rate_115 : decode cX4_rate 115 = .ok (.iconst (-1), 1) := by decide +kernel
theorem dX4_rate_116 : decode cX4_rate 116 = .ok (.if_icmp .ne 12, 3) := by decide +kernel
theorem dX4_rate_119 : decode cX4_rate 119 = .ok (.aload_n 0, 1) := by decide +kernel
theorem dX4_rate_120 : decode cX4_rate 120 = .ok (.getfield 62, 3) := by decide +kernel
theorem dX4_rate_123 : decode cX4_rate 123 = .ok (.bipush 12, 2) := by decide +kernel
theorem dX4_rate_125 : decode cX4_rate 125 = .ok (.if_icmp .ge 7, 3) := by decide +kernel
theorem dX4_rate_128 : decode cX4_rate 128 = .ok (.iconst 1, 1) := by decide +kernel
theorem dX4_rate_129 : decode cX4_rate 129 = .ok (.goto 4, 3) := by decide +kernel
theorem dX4_rate_132 : decode cX4_rate 132 = .ok (.iconst 0, 1) := by decide +kernel
theorem dX4_rate_133 : decode cX4_rate 133 = .ok (.iconst 1, 1) := by decide +kernel
theorem dX4_rate_134 : decode cX4_rate 134 = .ok (.invokevirtual 65, 3) := by decide +kernel
theorem dX4_rate_137 : decode cX4_rate 137 = .ok (.ifCond .ne 5, 3) := by decide +kernel
theorem dX4_rate_140 : decode cX4_rate 140 = .ok (.iconst 0, 1) := by decide +kernel
theorem dX4_rate_141 : decode cX4_rate 141 = .ok (.ireturn, 1) := by decide +kernel
theorem dX4_rate_142 : decode cX4_rate 142 = .ok (.iload 5, 2) := by decide +kernel
theorem dX4_rate_144 : decode cX4_rate 144 = .ok (.iconst (-1), 1) := by decide +kernel
theorem dX4_rate_145 : decode cX4_rate 145 = .ok (.if_icmp .ne 59, 3) := by decide +kernel
theorem dX4_rate_148 : decode cX4_rate 148 = .ok (.aload_n 0, 1) := by decide +kernel
theorem dX4_rate_149 : decode cX4_rate 149 = .ok (.getfield 21, 3) := by decide +kernel
theorem dX4_rate_152 : decode cX4_rate 152 = .ok (.iconst 3, 1) := by decide +kernel
theorem dX4_rate_153 : decode cX4_rate 153 = .ok (.aload_n 0, 1) := by decide +kernel
theorem dX4_rate_154 : decode cX4_rate 154 = .ok (.getfield 62, 3) := by decide +kernel
theorem dX4_rate_157 : decode cX4_rate 157 = .ok (.imul, 1) := by decide +kernel
theorem dX4_rate_158 : decode cX4_rate 158 = .ok (.iload_n 1, 1) := by decide +kernel
theorem dX4_rate_159 : decode cX4_rate 159 = .ok (.iastore, 1) := by decide +kernel
theorem dX4_rate_160 : decode cX4_rate 160 = .ok (.aload_n 0, 1) := by decide +kernel
theorem dX4_rate_161 : decode cX4_rate 161 = .ok (.getfield 21, 3) := by decide +kernel
theorem dX4_rate_164 : decode cX4_rate 164 = .ok (.iconst 3, 1) := by decide +kernel
theorem dX4_rate_165 : decode cX4_rate 165 = .ok (.aload_n 0, 1) := by decide +kernel
theorem dX4_rate_166 : decode cX4_rate 166 = .ok (.getfield 62, 3) := by decide +kernel
theorem dX4_rate_169 : decode cX4_rate 169 = .ok (.imul, 1) := by decide +kernel
theorem dX4_rate_170 : decode cX4_rate 170 = .ok (.iconst 1, 1) := by decide +kernel
theorem dX4_rate_171 : decode cX4_rate 171 = .ok (.iadd, 1) := by decide +kernel
theorem dX4_rate_172 : decode cX4_rate 172 = .ok (.iload_n 2, 1) := by decide +kernel
theorem dX4_rate_173 : decode cX4_rate 173 = .ok (.iastore, 1) := by decide +kernel
theorem dX4_rate_174 : decode cX4_rate 174 = .ok (.aload_n 0, 1) := by decide +kernel
theorem dX4_rate_175 : decode cX4_rate 175 = .ok (.getfield 21, 3) := by decide +kernel
theorem dX4_rate_178 : decode cX4_rate 178 = .ok (.iconst 3, 1) := by decide +kernel
theorem dX4_rate_179 : decode cX4_rate 179 = .ok (.aload_n 0, 1) := by decide +kernel
theorem dX4_rate_180 : decode cX4_rate 180 = .ok (.getfield 62, 3) := by decide +kernel
theorem dX4_rate_183 : decode cX4_rate 183 = .ok (.imul, 1) := by decide +kernel
theorem dX4_rate_184 : decode cX4_rate 184 = .ok (.iconst 2, 1) := by decide +kernel
theorem dX4_rate_185 : decode cX4_rate 185 = .ok (.iadd, 1) := by decide +kernel
theorem dX4_rate_186 : decode cX4_rate 186 = .ok (.iload_n 3, 1) := by decide +kernel
theorem dX4_rate_187 : decode cX4_rate 187 = .ok (.iastore, 1) := by decide +kernel
theorem dX4_rate_188 : decode cX4_rate 188 = .ok (.aload_n 0, 1) := by decide +kernel
theorem dX4_rate_189 : decode cX4_rate 189 = .ok (.getfield 62, 3) := by decide +kernel
theorem dX4_rate_192 : decode cX4_rate 192 = .ok (.istore 5, 2) := by decide +kernel
theorem dX4_rate_194 : decode cX4_rate 194 = .ok (.aload_n 0, 1) := by decide +kernel
theorem dX4_rate_195 : decode cX4_rate 195 = .ok (.dup, 1) := by decide +kernel
theorem dX4_rate_196 : decode cX4_rate 196 = .ok (.getfield 62, 3) := by decide +kernel
theorem dX4_rate_199 : decode cX4_rate 199 = .ok (.iconst 1, 1) := by decide +kernel
theorem dX4_rate_200 : decode cX4_rate 200 = .ok (.iadd, 1) := by decide +kernel
theorem dX4_rate_201 : decode cX4_rate 201 = .ok (.putfield 62, 3) := by decide +kernel
theorem dX4_rate_204 : decode cX4_rate 204 = .ok (.iload 5, 2) := by decide +kernel
theorem dX4_rate_206 : decode cX4_rate 206 = .ok (.ireturn, 1) := by decide +kernel
set_option maxRecDepth 20000 in
theorem ggX4_price_X4_in : GoodIn wsX4_price wsX4_in := goodIn_r _ [5] (by decide +kernel) (by decide +kernel)
set_option maxRecDepth 20000 in
theorem gX4_price_X4_in : GoodIn wsX4_price (va_wsS RX4 58 yX4_in wsX4_in) := goodIn_app (goodIn_of _ (by decide +kernel)) ggX4_price_X4_in
set_option maxRecDepth 20000 in
theorem ggX4_price_X4_goes : GoodIn wsX4_price wsX4_goes := goodIn_r _ [9, 10, 11, 12, 13, 14, 15, 16, 17, 18, 19, 20, 21, 22, 23, 24, 25, 26, 27, 28, 29, 30, 31, 32, 33, 34, 35, 36] (by decide +kernel) (by decide +kernel)
set_option maxRecDepth 20000 in
theorem gX4_price_X4_goes : GoodIn wsX4_price (wsV RX4 65 RX4 yX4_goes wsX4_goes) := goodIn_app (goodIn_of _ (by decide +kernel)) ggX4_price_X4_goes
theorem dX4_price_0 : decode cX4_price 0 = .ok (.aload_n 0, 1) := by decide +kernel
theorem dX4_price_1 : decode cX4_price 1 = .ok (.iload_n 1, 1) := by decide +kernel
theorem dX4_price_2 : decode cX4_price 2 = .ok (.iconst 0, 1) := by decide +kernel
theorem dX4_price_3 : decode cX4_price 3 = .ok (.iconst 2, 1) := by decide +kernel
theorem dX4_price_4 : decode cX4_price 4 = .ok (.invokestatic 58, 3) := by decide +kernel
theorem dX4_price_7 : decode cX4_price 7 = .ok (.ifCond .eq 18, 3) := by decide +kernel
theorem dX4_price_10 : decode cX4_price 10 = .ok (.iload_n 2, 1) := by decide +kernel
theorem dX4_price_11 : decode cX4_price 11 = .ok (.iconst 0, 1) := by decide +kernel
theorem dX4_price_12 : decode cX4_price 12 = .ok (.sipush 1000, 3) := by decide +kernel
theorem dX4_price_15 : decode cX4_price 15 = .ok (.invokestatic 58, 3) := by decide +kernel
theorem dX4_price_18 : decode cX4_price 18 = .ok (.ifCond .eq 7, 3) := by decide +kernel
theorem dX4_price_21 : decode cX4_price 21 = .ok (.iconst 1, 1) := by decide +kernel
theorem dX4_price_22 : decode cX4_price 22 = .ok (.goto 4, 3) := by decide +kernel
theorem dX4_price_25 : decode cX4_price 25 = .ok (.iconst 0, 1) := by decide +kernel
theorem dX4_price_26 : decode cX4_price 26 = .ok (.iconst 1, 1) := by decide +kernel
theorem dX4_price_27 : decode cX4_price 27 = .ok (.iconst 1, 1) := by decide +kernel
theorem dX4_price_28 : decode cX4_price 28 = .ok (.invokevirtual 65, 3) := by decide +kernel
theorem dX4_price_31 : decode cX4_price 31 = .ok (.ifCond .ne 5, 3) := by decide +kernel
theorem dX4_price_34 : decode cX4_price 34 = .ok (.iconst 0, 1) := by decide +kernel
theorem dX4_price_35 : decode cX4_price 35 = .ok (.ireturn, 1) := by decide +kernel
theorem dX4_price_36 : decode cX4_price 36 = .ok (.aload_n 0, 1) := by decide +kernel
theorem dX4_price_37 : decode cX4_price 37 = .ok (.getfield 24, 3) := by decide +kernel
theorem dX4_price_40 : decode cX4_price 40 = .ok (.iload_n 1, 1) := by decide +kernel
theorem dX4_price_41 : decode cX4_price 41 = .ok (.iaload, 1) := by decide +kernel
theorem dX4_price_42 : decode cX4_price 42 = .ok (.istore_n 3, 1) := by decide +kernel
theorem dX4_price_43 : decode cX4_price 43 = .ok (.aload_n 0, 1) := by decide +kernel
theorem dX4_price_44 : decode cX4_price 44 = .ok (.getfield 24, 3) := by decide +kernel
theorem dX4_price_47 : decode cX4_price 47 = .ok (.iload_n 1, 1) := by decide +kernel
theorem dX4_price_48 : decode cX4_price 48 = .ok (.iload_n 2, 1) := by decide +kernel
theorem dX4_price_49 : decode cX4_price 49 = .ok (.iastore, 1) := by decide +kernel
theorem dX4_price_50 : decode cX4_price 50 = .ok (.iload_n 3, 1) := by decide +kernel
theorem dX4_price_51 : decode cX4_price 51 = .ok (.ireturn, 1) := by decide +kernel
theorem dX4_cents_0 : decode cX4_cents 0 = .ok (.aload_n 0, 1) := by decide +kernel
theorem dX4_cents_1 : decode cX4_cents 1 = .ok (.getfield 21, 3) := by decide +kernel
theorem dX4_cents_4 : decode cX4_cents 4 = .ok (.iconst 3, 1) := by decide +kernel
theorem dX4_cents_5 : decode cX4_cents 5 = .ok (.iload_n 1, 1) := by decide +kernel
theorem dX4_cents_6 : decode cX4_cents 6 = .ok (.imul, 1) := by decide +kernel
theorem dX4_cents_7 : decode cX4_cents 7 = .ok (.iaload, 1) := by decide +kernel
theorem dX4_cents_8 : decode cX4_cents 8 = .ok (.aload_n 0, 1) := by decide +kernel
theorem dX4_cents_9 : decode cX4_cents 9 = .ok (.getfield 24, 3) := by decide +kernel
theorem dX4_cents_12 : decode cX4_cents 12 = .ok (.iconst 0, 1) := by decide +kernel
theorem dX4_cents_13 : decode cX4_cents 13 = .ok (.iaload, 1) := by decide +kernel
theorem dX4_cents_14 : decode cX4_cents 14 = .ok (.imul, 1) := by decide +kernel
theorem dX4_cents_15 : decode cX4_cents 15 = .ok (.aload_n 0, 1) := by decide +kernel
theorem dX4_cents_16 : decode cX4_cents 16 = .ok (.getfield 21, 3) := by decide +kernel
theorem dX4_cents_19 : decode cX4_cents 19 = .ok (.iconst 3, 1) := by decide +kernel
theorem dX4_cents_20 : decode cX4_cents 20 = .ok (.iload_n 1, 1) := by decide +kernel
theorem dX4_cents_21 : decode cX4_cents 21 = .ok (.imul, 1) := by decide +kernel
theorem dX4_cents_22 : decode cX4_cents 22 = .ok (.iconst 1, 1) := by decide +kernel
theorem dX4_cents_23 : decode cX4_cents 23 = .ok (.iadd, 1) := by decide +kernel
theorem dX4_cents_24 : decode cX4_cents 24 = .ok (.iaload, 1) := by decide +kernel
theorem dX4_cents_25 : decode cX4_cents 25 = .ok (.aload_n 0, 1) := by decide +kernel
theorem dX4_cents_26 : decode cX4_cents 26 = .ok (.getfield 24, 3) := by decide +kernel
theorem dX4_cents_29 : decode cX4_cents 29 = .ok (.iconst 1, 1) := by decide +kernel
theorem dX4_cents_30 : decode cX4_cents 30 = .ok (.iaload, 1) := by decide +kernel
theorem dX4_cents_31 : decode cX4_cents 31 = .ok (.imul, 1) := by decide +kernel
theorem dX4_cents_32 : decode cX4_cents 32 = .ok (.iadd, 1) := by decide +kernel
theorem dX4_cents_33 : decode cX4_cents 33 = .ok (.aload_n 0, 1) := by decide +kernel
theorem dX4_cents_34 : decode cX4_cents 34 = .ok (.getfield 21, 3) := by decide +kernel
theorem dX4_cents_37 : decode cX4_cents 37 = .ok (.iconst 3, 1) := by decide +kernel
theorem dX4_cents_38 : decode cX4_cents 38 = .ok (.iload_n 1, 1) := by decide +kernel
theorem dX4_cents_39 : decode cX4_cents 39 = .ok (.imul, 1) := by decide +kernel
theorem dX4_cents_40 : decode cX4_cents 40 = .ok (.iconst 2, 1) := by decide +kernel
theorem dX4_cents_41 : decode cX4_cents 41 = .ok (.iadd, 1) := by decide +kernel
theorem dX4_cents_42 : decode cX4_cents 42 = .ok (.iaload, 1) := by decide +kernel
theorem dX4_cents_43 : decode cX4_cents 43 = .ok (.aload_n 0, 1) := by decide +kernel
theorem dX4_cents_44 : decode cX4_cents 44 = .ok (.getfield 24, 3) := by decide +kernel
theorem dX4_cents_47 : decode cX4_cents 47 = .ok (.iconst 2, 1) := by decide +kernel
theorem dX4_cents_48 : decode cX4_cents 48 = .ok (.iaload, 1) := by decide +kernel
theorem dX4_cents_49 : decode cX4_cents 49 = .ok (.imul, 1) := by decide +kernel
theorem dX4_cents_50 : decode cX4_cents 50 = .ok (.iadd, 1) := by decide +kernel
theorem dX4_cents_51 : decode cX4_cents 51 = .ok (.ireturn, 1) := by decide +kernel
set_option maxRecDepth 20000 in
theorem ggX4_rateOf_X4_isRate : GoodIn wsX4_rateOf wsX4_isRate := goodIn_r _ [5, 6, 7, 8, 4, 9, 21, 22, 23, 24, 25, 26, 27, 28, 29, 30, 31, 32, 33, 34, 35, 36, 37, 38, 39, 40, 41, 42, 43, 44, 45, 46] (by decide +kernel) (by decide +kernel)
set_option maxRecDepth 20000 in
theorem gX4_rateOf_X4_isRate : GoodIn wsX4_rateOf (wsV RX4 110 RX4 yX4_isRate wsX4_isRate) := goodIn_app (goodIn_of _ (by decide +kernel)) ggX4_rateOf_X4_isRate
set_option maxRecDepth 20000 in
theorem ggX4_rateOf_X4_goes : GoodIn wsX4_rateOf wsX4_goes := goodIn_r _ [13, 14, 21, 22, 23, 24, 25, 26, 27, 28, 29, 30, 31, 32, 33, 34, 35, 36, 37, 38, 39, 40, 41, 42, 43, 44, 45, 46] (by decide +kernel) (by decide +kernel)
set_option maxRecDepth 20000 in
theorem gX4_rateOf_X4_goes : GoodIn wsX4_rateOf (wsV RX4 65 RX4 yX4_goes wsX4_goes) := goodIn_app (goodIn_of _ (by decide +kernel)) ggX4_rateOf_X4_goes
set_option maxRecDepth 20000 in
theorem ggX4_rateOf_X4_cents : GoodIn wsX4_rateOf wsX4_cents := goodIn_r _ [18, 19, 20, 21, 22, 23, 24, 25, 26, 27, 28, 29, 30, 31, 32, 33, 34, 35, 36, 37, 38, 39, 40, 41, 42, 43, 44, 45, 46] (by decide +kernel) (by decide +kernel)
set_option maxRecDepth 20000 in
theorem gX4_rateOf_X4_cents : GoodIn wsX4_rateOf (wsV RX4 114 RX4 yX4_cents wsX4_cents) := goodIn_app (goodIn_of _ (by decide +kernel)) ggX4_rateOf_X4_cents
theorem dX4_rateOf_0 : decode cX4_rateOf 0 = .ok (.aload_n 0, 1) := by decide +kernel
theorem dX4_rateOf_1 : decode cX4_rateOf 1 = .ok (.aload_n 0, 1) := by decide +kernel
theorem dX4_rateOf_2 : decode cX4_rateOf 2 = .ok (.iload_n 1, 1) := by decide +kernel
theorem dX4_rateOf_3 : decode cX4_rateOf 3 = .ok (.invokevirtual 110, 3) := by decide +kernel
theorem dX4_rateOf_6 : decode cX4_rateOf 6 = .ok (.iconst 1, 1) := by decide +kernel
theorem dX4_rateOf_7 : decode cX4_rateOf 7 = .ok (.iconst 1, 1) := by decide +kernel
theorem dX4_rateOf_8 : decode cX4_rateOf 8 = .ok (.invokevirtual 65, 3) := by decide +kernel
theorem dX4_rateOf_11 : decode cX4_rateOf 11 = .ok (.ifCond .eq 11, 3) := by decide +kernel
theorem dX4_rateOf_14 : decode cX4_rateOf 14 = .ok (.aload_n 0, 1) := by decide +kernel
theorem dX4_rateOf_15 : decode cX4_rateOf 15 = .ok (.iload_n 1, 1) := by decide +kernel
theorem dX4_rateOf_16 : decode cX4_rateOf 16 = .ok (.invokevirtual 114, 3) := by decide +kernel
theorem dX4_rateOf_19 : decode cX4_rateOf 19 = .ok (.goto 4, 3) := by decide +kernel
theorem dX4_rateOf_22 : decode cX4_rateOf 22 = .ok (.iconst 0, 1) := by decide +kernel
theorem dX4_rateOf_23 : decode cX4_rateOf 23 = .ok (.ireturn, 1) := by decide +kernel
set_option maxRecDepth 20000 in
theorem ggX4_isLeaf_X4_isHeading : GoodIn wsX4_isLeaf wsX4_isHeading := goodIn_r _ [5, 6, 7, 8, 9, 10, 11, 12, 13, 14, 15, 16, 17, 18, 19, 20, 21, 22, 23, 24, 25, 26, 27, 28, 29, 30, 31, 32] (by decide +kernel) (by decide +kernel)
set_option maxRecDepth 20000 in
theorem gX4_isLeaf_X4_isHeading : GoodIn wsX4_isLeaf (wsV RX4 118 RX4 yX4_isHeading wsX4_isHeading) := goodIn_app (goodIn_of _ (by decide +kernel)) ggX4_isLeaf_X4_isHeading
theorem dX4_isLeaf_0 : decode cX4_isLeaf 0 = .ok (.iload_n 1, 1) := by decide +kernel
theorem dX4_isLeaf_1 : decode cX4_isLeaf 1 = .ok (.iconst (-1), 1) := by decide +kernel
theorem dX4_isLeaf_2 : decode cX4_isLeaf 2 = .ok (.if_icmp .eq 15, 3) := by decide +kernel
theorem dX4_isLeaf_5 : decode cX4_isLeaf 5 = .ok (.aload_n 0, 1) := by decide +kernel
theorem dX4_isLeaf_6 : decode cX4_isLeaf 6 = .ok (.iload_n 1, 1) := by decide +kernel
theorem dX4_isLeaf_7 : decode cX4_isLeaf 7 = .ok (.invokevirtual 118, 3) := by decide +kernel
theorem dX4_isLeaf_10 : decode cX4_isLeaf 10 = .ok (.ifCond .ne 7, 3) := by decide +kernel
theorem dX4_isLeaf_13 : decode cX4_isLeaf 13 = .ok (.iconst 1, 1) := by decide +kernel
theorem dX4_isLeaf_14 : decode cX4_isLeaf 14 = .ok (.goto 4, 3) := by decide +kernel
theorem dX4_isLeaf_17 : decode cX4_isLeaf 17 = .ok (.iconst 0, 1) := by decide +kernel
theorem dX4_isLeaf_18 : decode cX4_isLeaf 18 = .ok (.ireturn, 1) := by decide +kernel
theorem dX4_adds_0 : decode cX4_adds 0 = .ok (.aload_n 0, 1) := by decide +kernel
theorem dX4_adds_1 : decode cX4_adds 1 = .ok (.getfield 27, 3) := by decide +kernel
theorem dX4_adds_4 : decode cX4_adds 4 = .ok (.aload_n 0, 1) := by decide +kernel
theorem dX4_adds_5 : decode cX4_adds 5 = .ok (.getfield 55, 3) := by decide +kernel
theorem dX4_adds_8 : decode cX4_adds 8 = .ok (.iload_n 1, 1) := by decide +kernel
theorem dX4_adds_9 : decode cX4_adds 9 = .ok (.iastore, 1) := by decide +kernel
theorem dX4_adds_10 : decode cX4_adds 10 = .ok (.aload_n 0, 1) := by decide +kernel
theorem dX4_adds_11 : decode cX4_adds 11 = .ok (.getfield 30, 3) := by decide +kernel
theorem dX4_adds_14 : decode cX4_adds 14 = .ok (.aload_n 0, 1) := by decide +kernel
theorem dX4_adds_15 : decode cX4_adds 15 = .ok (.getfield 55, 3) := by decide +kernel
theorem dX4_adds_18 : decode cX4_adds 18 = .ok (.iload_n 2, 1) := by decide +kernel
theorem dX4_adds_19 : decode cX4_adds 19 = .ok (.iastore, 1) := by decide +kernel
theorem dX4_adds_20 : decode cX4_adds 20 = .ok (.aload_n 0, 1) := by decide +kernel
theorem dX4_adds_21 : decode cX4_adds 21 = .ok (.getfield 33, 3) := by decide +kernel
theorem dX4_adds_24 : decode cX4_adds 24 = .ok (.aload_n 0, 1) := by decide +kernel
theorem dX4_adds_25 : decode cX4_adds 25 = .ok (.getfield 55, 3) := by decide +kernel
theorem dX4_adds_28 : decode cX4_adds 28 = .ok (.iload_n 3, 1) := by decide +kernel
theorem dX4_adds_29 : decode cX4_adds 29 = .ok (.iastore, 1) := by decide +kernel
theorem dX4_adds_30 : decode cX4_adds 30 = .ok (.aload_n 0, 1) := by decide +kernel
theorem dX4_adds_31 : decode cX4_adds 31 = .ok (.dup, 1) := by decide +kernel
theorem dX4_adds_32 : decode cX4_adds 32 = .ok (.getfield 55, 3) := by decide +kernel
theorem dX4_adds_35 : decode cX4_adds 35 = .ok (.iconst 1, 1) := by decide +kernel
theorem dX4_adds_36 : decode cX4_adds 36 = .ok (.iadd, 1) := by decide +kernel
theorem dX4_adds_37 : decode cX4_adds 37 = .ok (.putfield 55, 3) := by decide +kernel
theorem dX4_adds_40 : decode cX4_adds 40 = .ok (.aload_n 0, 1) := by decide +kernel
theorem dX4_adds_41 : decode cX4_adds 41 = .ok (.getfield 55, 3) := by decide +kernel
theorem dX4_adds_44 : decode cX4_adds 44 = .ok (.iconst 1, 1) := by decide +kernel
theorem dX4_adds_45 : decode cX4_adds 45 = .ok (.isub, 1) := by decide +kernel
theorem dX4_adds_46 : decode cX4_adds 46 = .ok (.ireturn, 1) := by decide +kernel
set_option maxRecDepth 20000 in
theorem ggX4_heading_X4_isItem : GoodIn wsX4_heading wsX4_isItem := goodIn_r _ [6, 1, 7, 8, 5, 9, 30, 31, 32, 33, 34, 35, 36, 37, 38, 39, 40, 41, 42, 43, 44, 45, 46, 47, 48, 49, 50, 51, 52, 53, 54, 55] (by decide +kernel) (by decide +kernel)
set_option maxRecDepth 20000 in
theorem gX4_heading_X4_isItem : GoodIn wsX4_heading (wsV RX4 121 RX4 yX4_isItem wsX4_isItem) := goodIn_app (goodIn_of _ (by decide +kernel)) ggX4_heading_X4_isItem
set_option maxRecDepth 20000 in
theorem ggX4_heading_X4_isLeaf : GoodIn wsX4_heading wsX4_isLeaf := goodIn_r _ [13, 14, 15, 16, 5, 17, 18, 30, 31, 32, 33, 34, 35, 36, 37, 38, 39, 40, 41, 42, 43, 44, 45, 46, 47, 48, 49, 50, 51, 52, 53, 54, 55] (by decide +kernel) (by decide +kernel)
set_option maxRecDepth 20000 in
theorem gX4_heading_X4_isLeaf : GoodIn wsX4_heading (wsV RX4 124 RX4 yX4_isLeaf wsX4_isLeaf) := goodIn_app (goodIn_of _ (by decide +kernel)) ggX4_heading_X4_isLeaf
set_option maxRecDepth 20000 in
theorem ggX4_heading_X4_goes : GoodIn wsX4_heading wsX4_goes := goodIn_r _ [22, 23, 30, 31, 32, 33, 34, 35, 36, 37, 38, 39, 40, 41, 42, 43, 44, 45, 46, 47, 48, 49, 50, 51, 52, 53, 54, 55] (by decide +kernel) (by decide +kernel)
set_option maxRecDepth 20000 in
theorem gX4_heading_X4_goes : GoodIn wsX4_heading (wsV RX4 65 RX4 yX4_goes wsX4_goes) := goodIn_app (goodIn_of _ (by decide +kernel)) ggX4_heading_X4_goes
set_option maxRecDepth 20000 in
theorem ggX4_heading_X4_adds : GoodIn wsX4_heading wsX4_adds := goodIn_r _ [27, 28, 1, 18, 29, 30, 31, 32, 33, 34, 35, 36, 37, 38, 39, 40, 41, 42, 43, 44, 45, 46, 47, 48, 49, 50, 51, 52, 53, 54, 55] (by decide +kernel) (by decide +kernel)
set_option maxRecDepth 20000 in
theorem gX4_heading_X4_adds : GoodIn wsX4_heading (wsV RX4 127 RX4 yX4_adds wsX4_adds) := goodIn_app (goodIn_of _ (by decide +kernel)) ggX4_heading_X4_adds
theorem dX4_heading_0 : decode cX4_heading 0 = .ok (.iload_n 1, 1) := by decide +kernel
theorem dX4_heading_1 : decode cX4_heading 1 = .ok (.iconst (-1), 1) := by decide +kernel
theorem dX4_heading_2 : decode cX4_heading 2 = .ok (.if_icmp .eq 11, 3) := by decide +kernel
theorem dX4_heading_5 : decode cX4_heading 5 = .ok (.aload_n 0, 1) := by decide +kernel
theorem dX4_heading_6 : decode cX4_heading 6 = .ok (.iload_n 1, 1) := by decide +kernel
theorem dX4_heading_7 : decode cX4_heading 7 = .ok (.invokevirtual 121, 3) := by decide +kernel
theorem dX4_heading_10 : decode cX4_heading 10 = .ok (.ifCond .eq 7, 3) := by decide +kernel
theorem dX4_heading_13 : decode cX4_heading 13 = .ok (.iconst 1, 1) := by decide +kernel
theorem dX4_heading_14 : decode cX4_heading 14 = .ok (.goto 4, 3) := by decide +kernel
theorem dX4_heading_17 : decode cX4_heading 17 = .ok (.iconst 0, 1) := by decide +kernel
theorem dX4_heading_18 : decode cX4_heading 18 = .ok (.istore_n 2, 1) := by decide +kernel
theorem dX4_heading_19 : decode cX4_heading 19 = .ok (.aload_n 0, 1) := by decide +kernel
theorem dX4_heading_20 : decode cX4_heading 20 = .ok (.iload_n 2, 1) := by decide +kernel
theorem dX4_heading_21 : decode cX4_heading 21 = .ok (.iload_n 2, 1) := by decide +kernel
theorem dX4_heading_22 : decode cX4_heading 22 = .ok (.ifCond .eq 24, 3) := by decide +kernel
theorem dX4_heading_25 : decode cX4_heading 25 = .ok (.aload_n 0, 1) := by decide +kernel
theorem dX4_heading_26 : decode cX4_heading 26 = .ok (.iload_n 1, 1) := by decide +kernel
theorem dX4_heading_27 : decode cX4_heading 27 = .ok (.invokevirtual 124, 3) := by decide +kernel
theorem dX4_heading_30 : decode cX4_heading 30 = .ok (.ifCond .ne 16, 3) := by decide +kernel
theorem dX4_heading_33 : decode cX4_heading 33 = .ok (.aload_n 0, 1) := by decide +kernel
theorem dX4_heading_34 : decode cX4_heading 34 = .ok (.getfield 55, 3) := by decide +kernel
theorem dX4_heading_37 : decode cX4_heading 37 = .ok (.bipush 30, 2) := by decide +kernel
theorem dX4_heading_39 : decode cX4_heading 39 = .ok (.if_icmp .ge 7, 3) := by decide +kernel
theorem dX4_heading_42 : decode cX4_heading 42 = .ok (.iconst 1, 1) := by decide +kernel
theorem dX4_heading_43 : decode cX4_heading 43 = .ok (.goto 4, 3) := by decide +kernel
theorem dX4_heading_46 : decode cX4_heading 46 = .ok (.iconst 0, 1) := by decide +kernel
theorem dX4_heading_47 : decode cX4_heading 47 = .ok (.iconst 1, 1) := by decide +kernel
theorem dX4_heading_48 : decode cX4_heading 48 = .ok (.invokevirtual 65, 3) := by decide +kernel
theorem dX4_heading_51 : decode cX4_heading 51 = .ok (.ifCond .eq 13, 3) := by decide +kernel
theorem dX4_heading_54 : decode cX4_heading 54 = .ok (.aload_n 0, 1) := by decide +kernel
theorem dX4_heading_55 : decode cX4_heading 55 = .ok (.iload_n 1, 1) := by decide +kernel
theorem dX4_heading_56 : decode cX4_heading 56 = .ok (.iconst (-1), 1) := by decide +kernel
theorem dX4_heading_57 : decode cX4_heading 57 = .ok (.iconst 0, 1) := by decide +kernel
theorem dX4_heading_58 : decode cX4_heading 58 = .ok (.invokevirtual 127, 3) := by decide +kernel
theorem dX4_heading_61 : decode cX4_heading 61 = .ok (.goto 4, 3) := by decide +kernel
theorem dX4_heading_64 : decode cX4_heading 64 = .ok (.iconst 0, 1) := by decide +kernel
theorem dX4_heading_65 : decode cX4_heading 65 = .ok (.ireturn, 1) := by decide +kernel
set_option maxRecDepth 20000 in
theorem ggX4_leaf_X4_isItem : GoodIn wsX4_leaf wsX4_isItem := goodIn_r _ [6, 1, 7, 8, 5, 9, 35, 36, 37, 38, 39, 40, 41, 42, 43, 44, 45, 46, 47, 48, 49, 50, 51, 52, 53, 54, 55, 56, 57, 58, 59, 60] (by decide +kernel) (by decide +kernel)
set_option maxRecDepth 20000 in
theorem gX4_leaf_X4_isItem : GoodIn wsX4_leaf (wsV RX4 121 RX4 yX4_isItem wsX4_isItem) := goodIn_app (goodIn_of _ (by decide +kernel)) ggX4_leaf_X4_isItem
set_option maxRecDepth 20000 in
theorem ggX4_leaf_X4_isRate : GoodIn wsX4_leaf wsX4_isRate := goodIn_r _ [13, 14, 7, 8, 5, 9, 35, 36, 37, 38, 39, 40, 41, 42, 43, 44, 45, 46, 47, 48, 49, 50, 51, 52, 53, 54, 55, 56, 57, 58, 59, 60] (by decide +kernel) (by decide +kernel)
set_option maxRecDepth 20000 in
theorem gX4_leaf_X4_isRate : GoodIn wsX4_leaf (wsV RX4 110 RX4 yX4_isRate wsX4_isRate) := goodIn_app (goodIn_of _ (by decide +kernel)) ggX4_leaf_X4_isRate
set_option maxRecDepth 20000 in
theorem ggX4_leaf_X4_in : GoodIn wsX4_leaf wsX4_in := goodIn_r _ [9] (by decide +kernel) (by decide +kernel)
set_option maxRecDepth 20000 in
theorem gX4_leaf_X4_in : GoodIn wsX4_leaf (va_wsS RX4 58 yX4_in wsX4_in) := goodIn_app (goodIn_of _ (by decide +kernel)) ggX4_leaf_X4_in
set_option maxRecDepth 20000 in
theorem ggX4_leaf_X4_isLeaf : GoodIn wsX4_leaf wsX4_isLeaf := goodIn_r _ [18, 19, 20, 21, 5, 22, 23, 35, 36, 37, 38, 39, 40, 41, 42, 43, 44, 45, 46, 47, 48, 49, 50, 51, 52, 53, 54, 55, 56, 57, 58, 59, 60] (by decide +kernel) (by decide +kernel)
set_option maxRecDepth 20000 in
theorem gX4_leaf_X4_isLeaf : GoodIn wsX4_leaf (wsV RX4 124 RX4 yX4_isLeaf wsX4_isLeaf) := goodIn_app (goodIn_of _ (by decide +kernel)) ggX4_leaf_X4_isLeaf
set_option maxRecDepth 20000 in
theorem ggX4_leaf_X4_goes : GoodIn wsX4_leaf wsX4_goes := goodIn_r _ [27, 28, 35, 36, 37, 38, 39, 40, 41, 42, 43, 44, 45, 46, 47, 48, 49, 50, 51, 52, 53, 54, 55, 56, 57, 58, 59, 60] (by decide +kernel) (by decide +kernel)
set_option maxRecDepth 20000 in
theorem gX4_leaf_X4_goes : GoodIn wsX4_leaf (wsV RX4 65 RX4 yX4_goes wsX4_goes) := goodIn_app (goodIn_of _ (by decide +kernel)) ggX4_leaf_X4_goes
set_option maxRecDepth 20000 in
theorem ggX4_leaf_X4_adds : GoodIn wsX4_leaf wsX4_adds := goodIn_r _ [32, 33, 1, 23, 34, 35, 36, 37, 38, 39, 40, 41, 42, 43, 44, 45, 46, 47, 48, 49, 50, 51, 52, 53, 54, 55, 56, 57, 58, 59, 60] (by decide +kernel) (by decide +kernel)
set_option maxRecDepth 20000 in
theorem gX4_leaf_X4_adds : GoodIn wsX4_leaf (wsV RX4 127 RX4 yX4_adds wsX4_adds) := goodIn_app (goodIn_of _ (by decide +kernel)) ggX4_leaf_X4_adds
theorem dX4_leaf_0 : decode cX4_leaf 0 = .ok (.iload_n 1, 1) := by decide +kernel
theorem dX4_leaf_1 : decode cX4_leaf 1 = .ok (.iconst (-1), 1) := by decide +kernel
theorem dX4_leaf_2 : decode cX4_leaf 2 = .ok (.if_icmp .eq 11, 3) := by decide +kernel
theorem dX4_leaf_5 : decode cX4_leaf 5 = .ok (.aload_n 0, 1) := by decide +kernel
theorem dX4_leaf_6 : decode cX4_leaf 6 = .ok (.iload_n 1, 1) := by decide +kernel
theorem dX4_leaf_7 : decode cX4_leaf 7 = .ok (.invokevirtual 121, 3) := by decide +kernel
theorem dX4_leaf_10 : decode cX4_leaf 10 = .ok (.ifCond .eq 15, 3) := by decide +kernel
theorem dX4_leaf_13 : decode cX4_leaf 13 = .ok (.aload_n 0, 1) := by decide +kernel
theorem dX4_leaf_14 : decode cX4_leaf 14 = .ok (.iload_n 2, 1) := by decide +kernel
theorem dX4_leaf_15 : decode cX4_leaf 15 = .ok (.invokevirtual 110, 3) := by decide +kernel
theorem dX4_leaf_18 : decode cX4_leaf 18 = .ok (.ifCond .eq 7, 3) := by decide +kernel
theorem dX4_leaf_21 : decode cX4_leaf 21 = .ok (.iconst 1, 1) := by decide +kernel
theorem dX4_leaf_22 : decode cX4_leaf 22 = .ok (.goto 4, 3) := by decide +kernel
theorem dX4_leaf_25 : decode cX4_leaf 25 = .ok (.iconst 0, 1) := by decide +kernel
theorem dX4_leaf_26 : decode cX4_leaf 26 = .ok (.istore 4, 2) := by decide +kernel
theorem dX4_leaf_28 : decode cX4_leaf 28 = .ok (.iload_n 3, 1) := by decide +kernel
theorem dX4_leaf_29 : decode cX4_leaf 29 = .ok (.iconst 0, 1) := by decide +kernel
theorem dX4_leaf_30 : decode cX4_leaf 30 = .ok (.bipush 50, 2) := by decide +kernel
theorem dX4_leaf_32 : decode cX4_leaf 32 = .ok (.invokestatic 58, 3) := by decide +kernel
theorem dX4_leaf_35 : decode cX4_leaf 35 = .ok (.istore 5, 2) := by decide +kernel
theorem dX4_leaf_37 : decode cX4_leaf 37 = .ok (.aload_n 0, 1) := by decide +kernel
theorem dX4_leaf_38 : decode cX4_leaf 38 = .ok (.iload 4, 2) := by decide +kernel
theorem dX4_leaf_40 : decode cX4_leaf 40 = .ok (.iload 5, 2) := by decide +kernel
theorem dX4_leaf_42 : decode cX4_leaf 42 = .ok (.iload 4, 2) := by decide +kernel
theorem dX4_leaf_44 : decode cX4_leaf 44 = .ok (.ifCond .eq 24, 3) := by decide +kernel
theorem dX4_leaf_47 : decode cX4_leaf 47 = .ok (.aload_n 0, 1) := by decide +kernel
theorem dX4_leaf_48 : decode cX4_leaf 48 = .ok (.iload_n 1, 1) := by decide +kernel
theorem dX4_leaf_49 : decode cX4_leaf 49 = .ok (.invokevirtual 124, 3) := by decide +kernel
theorem dX4_leaf_52 : decode cX4_leaf 52 = .ok (.ifCond .ne 16, 3) := by decide +kernel
theorem dX4_leaf_55 : decode cX4_leaf 55 = .ok (.aload_n 0, 1) := by decide +kernel
theorem dX4_leaf_56 : decode cX4_leaf 56 = .ok (.getfield 55, 3) := by decide +kernel
theorem dX4_leaf_59 : decode cX4_leaf 59 = .ok (.bipush 30, 2) := by decide +kernel
theorem dX4_leaf_61 : decode cX4_leaf 61 = .ok (.if_icmp .ge 7, 3) := by decide +kernel
theorem dX4_leaf_64 : decode cX4_leaf 64 = .ok (.iconst 1, 1) := by decide +kernel
theorem dX4_leaf_65 : decode cX4_leaf 65 = .ok (.goto 4, 3) := by decide +kernel
theorem dX4_leaf_68 : decode cX4_leaf 68 = .ok (.iconst 0, 1) := by decide +kernel
theorem dX4_leaf_69 : decode cX4_leaf 69 = .ok (.invokevirtual 65, 3) := by decide +kernel
theorem dX4_leaf_72 : decode cX4_leaf 72 = .ok (.ifCond .eq 13, 3) := by decide +kernel
theorem dX4_leaf_75 : decode cX4_leaf 75 = .ok (.aload_n 0, 1) := by decide +kernel
theorem dX4_leaf_76 : decode cX4_leaf 76 = .ok (.iload_n 1, 1) := by decide +kernel
theorem dX4_leaf_77 : decode cX4_leaf 77 = .ok (.iload_n 2, 1) := by decide +kernel
theorem dX4_leaf_78 : decode cX4_leaf 78 = .ok (.iload_n 3, 1) := by decide +kernel
theorem dX4_leaf_79 : decode cX4_leaf 79 = .ok (.invokevirtual 127, 3) := by decide +kernel
theorem dX4_leaf_82 : decode cX4_leaf 82 = .ok (.goto 4, 3) := by decide +kernel
theorem dX4_leaf_85 : decode cX4_leaf 85 = .ok (.iconst 0, 1) := by decide +kernel
theorem dX4_leaf_86 : decode cX4_leaf 86 = .ok (.ireturn, 1) := by decide +kernel
theorem dX4_items_0 : decode cX4_items 0 = .ok (.aload_n 0, 1) := by decide +kernel
theorem dX4_items_1 : decode cX4_items 1 = .ok (.iconst 0, 1) := by decide +kernel
theorem dX4_items_2 : decode cX4_items 2 = .ok (.putfield 52, 3) := by decide +kernel
theorem dX4_items_5 : decode cX4_items 5 = .ok (.aload_n 0, 1) := by decide +kernel
theorem dX4_items_6 : decode cX4_items 6 = .ok (.getfield 55, 3) := by decide +kernel
theorem dX4_items_9 : decode cX4_items 9 = .ok (.ireturn, 1) := by decide +kernel
set_option maxRecDepth 20000 in
theorem ggX4_take_X4_isItem : GoodIn wsX4_take wsX4_isItem := goodIn_r _ [8, 9, 10, 11, 7, 12, 35, 36, 37, 38, 39, 40, 41, 42, 43, 44, 45, 46, 47, 48, 49, 50, 51, 52, 53, 54, 55, 56, 57, 58, 59, 60] (by decide +kernel) (by decide +kernel)
set_option maxRecDepth 20000 in
theorem gX4_take_X4_isItem : GoodIn wsX4_take (wsV RX4 121 RX4 yX4_isItem wsX4_isItem) := goodIn_app (goodIn_of _ (by decide +kernel)) ggX4_take_X4_isItem
set_option maxRecDepth 20000 in
theorem ggX4_take_X4_in : GoodIn wsX4_take wsX4_in := goodIn_r _ [12] (by decide +kernel) (by decide +kernel)
set_option maxRecDepth 20000 in
theorem gX4_take_X4_in : GoodIn wsX4_take (va_wsS RX4 58 yX4_in wsX4_in) := goodIn_app (goodIn_of _ (by decide +kernel)) ggX4_take_X4_in
set_option maxRecDepth 20000 in
theorem ggX4_take_X4_isHeading : GoodIn wsX4_take wsX4_isHeading := goodIn_r _ [16, 17, 35, 36, 37, 38, 39, 40, 41, 42, 43, 44, 45, 46, 47, 48, 49, 50, 51, 52, 53, 54, 55, 56, 57, 58, 59, 60] (by decide +kernel) (by decide +kernel)
set_option maxRecDepth 20000 in
theorem gX4_take_X4_isHeading : GoodIn wsX4_take (wsV RX4 118 RX4 yX4_isHeading wsX4_isHeading) := goodIn_app (goodIn_of _ (by decide +kernel)) ggX4_take_X4_isHeading
set_option maxRecDepth 20000 in
theorem ggX4_take_X4_goes : GoodIn wsX4_take wsX4_goes := goodIn_r _ [21, 22, 35, 36, 37, 38, 39, 40, 41, 42, 43, 44, 45, 46, 47, 48, 49, 50, 51, 52, 53, 54, 55, 56, 57, 58, 59, 60] (by decide +kernel) (by decide +kernel)
set_option maxRecDepth 20000 in
theorem gX4_take_X4_goes : GoodIn wsX4_take (wsV RX4 65 RX4 yX4_goes wsX4_goes) := goodIn_app (goodIn_of _ (by decide +kernel)) ggX4_take_X4_goes
set_option maxRecDepth 20000 in
theorem ggX4_take_X4_net : GoodIn wsX4_take wsX4_net := goodIn_r _ [26, 27, 28, 29, 30, 31, 32, 7, 33, 34, 35, 36, 37, 38, 39, 40, 41, 42, 43, 44, 45, 46, 47, 48, 49, 50, 51, 52, 53, 54, 55, 56, 57, 58, 59, 60] (by decide +kernel) (by decide +kernel)
set_option maxRecDepth 20000 in
theorem gX4_take_X4_net : GoodIn wsX4_take (wsV RX4 107 RX4 yX4_net wsX4_net) := goodIn_app (goodIn_of _ (by decide +kernel)) ggX4_take_X4_net
theorem dX4_take_0 : decode cX4_take 0 = .ok (.aload_n 0, 1) := by decide +kernel
theorem dX4_take_1 : decode cX4_take 1 = .ok (.iload_n 1, 1) := by decide +kernel
theorem dX4_take_2 : decode cX4_take 2 = .ok (.invokevirtual 121, 3) := by decide +kernel
theorem dX4_take_5 : decode cX4_take 5 = .ok (.istore_n 3, 1) := by decide +kernel
theorem dX4_take_6 : decode cX4_take 6 = .ok (.aload_n 0, 1) := by decide +kernel
theorem dX4_take_7 : decode cX4_take 7 = .ok (.iload_n 3, 1) := by decide +kernel
theorem dX4_take_8 : decode cX4_take 8 = .ok (.iload_n 2, 1) := by decide +kernel
theorem dX4_take_9 : decode cX4_take 9 = .ok (.iconst 1, 1) := by decide +kernel
theorem dX4_take_10 : decode cX4_take 10 = .ok (.bipush 20, 2) := by decide +kernel
theorem dX4_take_12 : decode cX4_take 12 = .ok (.invokestatic 58, 3) := by decide +kernel
theorem dX4_take_15 : decode cX4_take 15 = .ok (.iload_n 3, 1) := by decide +kernel
theorem dX4_take_16 : decode cX4_take 16 = .ok (.ifCond .eq 29, 3) := by decide +kernel
theorem dX4_take_19 : decode cX4_take 19 = .ok (.aload_n 0, 1) := by decide +kernel
theorem dX4_take_20 : decode cX4_take 20 = .ok (.iload_n 1, 1) := by decide +kernel
theorem dX4_take_21 : decode cX4_take 21 = .ok (.invokevirtual 118, 3) := by decide +kernel
theorem dX4_take_24 : decode cX4_take 24 = .ok (.ifCond .ne 21, 3) := by decide +kernel
theorem dX4_take_27 : decode cX4_take 27 = .ok (.aload_n 0, 1) := by decide +kernel
theorem dX4_take_28 : decode cX4_take 28 = .ok (.getfield 69, 3) := by decide +kernel
theorem dX4_take_31 : decode cX4_take 31 = .ok (.ifCond .eq 14, 3) := by decide +kernel
theorem dX4_take_34 : decode cX4_take 34 = .ok (.aload_n 0, 1) := by decide +kernel
theorem dX4_take_35 : decode cX4_take 35 = .ok (.getfield 73, 3) := by decide +kernel
theorem dX4_take_38 : decode cX4_take 38 = .ok (.ifCond .eq 7, 3) := by decide +kernel
theorem dX4_take_41 : decode cX4_take 41 = .ok (.iconst 1, 1) := by decide +kernel
theorem dX4_take_42 : decode cX4_take 42 = .ok (.goto 4, 3) := by decide +kernel
theorem dX4_take_45 : decode cX4_take 45 = .ok (.iconst 0, 1) := by decide +kernel
theorem dX4_take_46 : decode cX4_take 46 = .ok (.invokevirtual 65, 3) := by decide +kernel
theorem dX4_take_49 : decode cX4_take 49 = .ok (.ifCond .ne 5, 3) := by decide +kernel
theorem dX4_take_52 : decode cX4_take 52 = .ok (.iconst 0, 1) := by decide +kernel
theorem dX4_take_53 : decode cX4_take 53 = .ok (.ireturn, 1) := by decide +kernel
theorem dX4_take_54 : decode cX4_take 54 = .ok (.aload_n 0, 1) := by decide +kernel
theorem dX4_take_55 : decode cX4_take 55 = .ok (.getfield 36, 3) := by decide +kernel
theorem dX4_take_58 : decode cX4_take 58 = .ok (.iload_n 1, 1) := by decide +kernel
theorem dX4_take_59 : decode cX4_take 59 = .ok (.dup2, 1) := by decide +kernel
theorem dX4_take_60 : decode cX4_take 60 = .ok (.iaload, 1) := by decide +kernel
theorem dX4_take_61 : decode cX4_take 61 = .ok (.aload_n 0, 1) := by decide +kernel
theorem dX4_take_62 : decode cX4_take 62 = .ok (.invokevirtual 107, 3) := by decide +kernel
theorem dX4_take_65 : decode cX4_take 65 = .ok (.iload_n 2, 1) := by decide +kernel
theorem dX4_take_66 : decode cX4_take 66 = .ok (.imul, 1) := by decide +kernel
theorem dX4_take_67 : decode cX4_take 67 = .ok (.iadd, 1) := by decide +kernel
theorem dX4_take_68 : decode cX4_take 68 = .ok (.iastore, 1) := by decide +kernel
theorem dX4_take_69 : decode cX4_take 69 = .ok (.aload_n 0, 1) := by decide +kernel
theorem dX4_take_70 : decode cX4_take 70 = .ok (.iconst 0, 1) := by decide +kernel
theorem dX4_take_71 : decode cX4_take 71 = .ok (.putfield 69, 3) := by decide +kernel
theorem dX4_take_74 : decode cX4_take 74 = .ok (.aload_n 0, 1) := by decide +kernel
theorem dX4_take_75 : decode cX4_take 75 = .ok (.getfield 36, 3) := by decide +kernel
theorem dX4_take_78 : decode cX4_take 78 = .ok (.iload_n 1, 1) := by decide +kernel
theorem dX4_take_79 : decode cX4_take 79 = .ok (.iaload, 1) := by decide +kernel
theorem dX4_take_80 : decode cX4_take 80 = .ok (.ireturn, 1) := by decide +kernel
set_option maxRecDepth 20000 in
theorem ggX4_vary_X4_isItem : GoodIn wsX4_vary wsX4_isItem := goodIn_r _ [6, 7, 8, 9, 5, 10, 21, 22, 23, 24, 25, 26, 27, 28, 29, 30, 31, 32, 33, 34, 35, 36, 37, 38, 39, 40, 41, 42, 43, 44, 45, 46] (by decide +kernel) (by decide +kernel)
set_option maxRecDepth 20000 in
theorem gX4_vary_X4_isItem : GoodIn wsX4_vary (wsV RX4 121 RX4 yX4_isItem wsX4_isItem) := goodIn_app (goodIn_of _ (by decide +kernel)) ggX4_vary_X4_isItem
set_option maxRecDepth 20000 in
theorem ggX4_vary_X4_in : GoodIn wsX4_vary wsX4_in := goodIn_r _ [10] (by decide +kernel) (by decide +kernel)
set_option maxRecDepth 20000 in
theorem gX4_vary_X4_in : GoodIn wsX4_vary (va_wsS RX4 58 yX4_in wsX4_in) := goodIn_app (goodIn_of _ (by decide +kernel)) ggX4_vary_X4_in
set_option maxRecDepth 20000 in
theorem ggX4_vary_X4_isHeading : GoodIn wsX4_vary wsX4_isHeading := goodIn_r _ [14, 15, 21, 22, 23, 24, 25, 26, 27, 28, 29, 30, 31, 32, 33, 34, 35, 36, 37, 38, 39, 40, 41, 42, 43, 44, 45, 46] (by decide +kernel) (by decide +kernel)
set_option maxRecDepth 20000 in
theorem gX4_vary_X4_isHeading : GoodIn wsX4_vary (wsV RX4 118 RX4 yX4_isHeading wsX4_isHeading) := goodIn_app (goodIn_of _ (by decide +kernel)) ggX4_vary_X4_isHeading
set_option maxRecDepth 20000 in
theorem ggX4_vary_X4_goes : GoodIn wsX4_vary wsX4_goes := goodIn_r _ [19, 20, 21, 22, 23, 24, 25, 26, 27, 28, 29, 30, 31, 32, 33, 34, 35, 36, 37, 38, 39, 40, 41, 42, 43, 44, 45, 46] (by decide +kernel) (by decide +kernel)
set_option maxRecDepth 20000 in
theorem gX4_vary_X4_goes : GoodIn wsX4_vary (wsV RX4 65 RX4 yX4_goes wsX4_goes) := goodIn_app (goodIn_of _ (by decide +kernel)) ggX4_vary_X4_goes
theorem dX4_vary_0 : decode cX4_vary 0 = .ok (.aload_n 0, 1) := by decide +kernel
theorem dX4_vary_1 : decode cX4_vary 1 = .ok (.iload_n 1, 1) := by decide +kernel
theorem dX4_vary_2 : decode cX4_vary 2 = .ok (.invokevirtual 121, 3) := by decide +kernel
theorem dX4_vary_5 : decode cX4_vary 5 = .ok (.istore_n 3, 1) := by decide +kernel
theorem dX4_vary_6 : decode cX4_vary 6 = .ok (.iload_n 2, 1) := by decide +kernel
theorem dX4_vary_7 : decode cX4_vary 7 = .ok (.sipush (-5000), 3) := by decide +kernel
theorem dX4_vary_10 : decode cX4_vary 10 = .ok (.sipush 5000, 3) := by decide +kernel
theorem dX4_vary_13 : decode cX4_vary 13 = .ok (.invokestatic 58, 3) := by decide +kernel
theorem dX4_vary_16 : decode cX4_vary 16 = .ok (.istore 4, 2) := by decide +kernel
theorem dX4_vary_18 : decode cX4_vary 18 = .ok (.aload_n 0, 1) := by decide +kernel
theorem dX4_vary_19 : decode cX4_vary 19 = .ok (.iload_n 3, 1) := by decide +kernel
theorem dX4_vary_20 : decode cX4_vary 20 = .ok (.iload 4, 2) := by decide +kernel
theorem dX4_vary_22 : decode cX4_vary 22 = .ok (.iload_n 3, 1) := by decide +kernel
theorem dX4_vary_23 : decode cX4_vary 23 = .ok (.ifCond .eq 40, 3) := by decide +kernel
theorem dX4_vary_26 : decode cX4_vary 26 = .ok (.iload 4, 2) := by decide +kernel
theorem dX4_vary_28 : decode cX4_vary 28 = .ok (.ifCond .eq 35, 3) := by decide +kernel
theorem dX4_vary_31 : decode cX4_vary 31 = .ok (.aload_n 0, 1) := by decide +kernel
theorem dX4_vary_32 : decode cX4_vary 32 = .ok (.iload_n 1, 1) := by decide +kernel
theorem dX4_vary_33 : decode cX4_vary 33 = .ok (.invokevirtual 118, 3) := by decide +kernel
theorem dX4_vary_36 : decode cX4_vary 36 = .ok (.ifCond .ne 27, 3) := by decide +kernel
theorem dX4_vary_39 : decode cX4_vary 39 = .ok (.aload_n 0, 1) := by decide +kernel
theorem dX4_vary_40 : decode cX4_vary 40 = .ok (.getfield 39, 3) := by decide +kernel
theorem dX4_vary_43 : decode cX4_vary 43 = .ok (.iload_n 1, 1) := by decide +kernel
theorem dX4_vary_44 : decode cX4_vary 44 = .ok (.iaload, 1) := by decide +kernel
theorem dX4_vary_45 : decode cX4_vary 45 = .ok (.iload_n 2, 1) := by decide +kernel
theorem dX4_vary_46 : decode cX4_vary 46 = .ok (.iadd, 1) := by decide +kernel
theorem dX4_vary_47 : decode cX4_vary 47 = .ok (.sipush (-20000), 3) := by decide +kernel
theorem dX4_vary_50 : decode cX4_vary 50 = .ok (.sipush 20000, 3) := by decide +kernel
theorem dX4_vary_53 : decode cX4_vary 53 = .ok (.invokestatic 58, 3) := by decide +kernel
theorem dX4_vary_56 : decode cX4_vary 56 = .ok (.ifCond .eq 7, 3) := by decide +kernel
theorem dX4_vary_59 : decode cX4_vary 59 = .ok (.iconst 1, 1) := by decide +kernel
theorem dX4_vary_60 : decode cX4_vary 60 = .ok (.goto 4, 3) := by decide +kernel
theorem dX4_vary_63 : decode cX4_vary 63 = .ok (.iconst 0, 1) := by decide +kernel
theorem dX4_vary_64 : decode cX4_vary 64 = .ok (.invokevirtual 65, 3) := by decide +kernel
theorem dX4_vary_67 : decode cX4_vary 67 = .ok (.ifCond .ne 5, 3) := by decide +kernel
theorem dX4_vary_70 : decode cX4_vary 70 = .ok (.iconst 0, 1) := by decide +kernel
theorem dX4_vary_71 : decode cX4_vary 71 = .ok (.ireturn, 1) := by decide +kernel
theorem dX4_vary_72 : decode cX4_vary 72 = .ok (.aload_n 0, 1) := by decide +kernel
theorem dX4_vary_73 : decode cX4_vary 73 = .ok (.getfield 39, 3) := by decide +kernel
theorem dX4_vary_76 : decode cX4_vary 76 = .ok (.iload_n 1, 1) := by decide +kernel
theorem dX4_vary_77 : decode cX4_vary 77 = .ok (.dup2, 1) := by decide +kernel
theorem dX4_vary_78 : decode cX4_vary 78 = .ok (.iaload, 1) := by decide +kernel
theorem dX4_vary_79 : decode cX4_vary 79 = .ok (.iload_n 2, 1) := by decide +kernel
theorem dX4_vary_80 : decode cX4_vary 80 = .ok (.iadd, 1) := by decide +kernel
theorem dX4_vary_81 : decode cX4_vary 81 = .ok (.iastore, 1) := by decide +kernel
theorem dX4_vary_82 : decode cX4_vary 82 = .ok (.aload_n 0, 1) := by decide +kernel
theorem dX4_vary_83 : decode cX4_vary 83 = .ok (.getfield 39, 3) := by decide +kernel
theorem dX4_vary_86 : decode cX4_vary 86 = .ok (.iload_n 1, 1) := by decide +kernel
theorem dX4_vary_87 : decode cX4_vary 87 = .ok (.iaload, 1) := by decide +kernel
theorem dX4_vary_88 : decode cX4_vary 88 = .ok (.ireturn, 1) := by decide +kernel
theorem dX4_quantities_0 : decode cX4_quantities 0 = .ok (.aload_n 0, 1) := by decide +kernel
theorem dX4_quantities_1 : decode cX4_quantities 1 = .ok (.getfield 36, 3) := by decide +kernel
theorem dX4_quantities_4 : decode cX4_quantities 4 = .ok (.iload_n 1, 1) := by decide +kernel
theorem dX4_quantities_5 : decode cX4_quantities 5 = .ok (.iaload, 1) := by decide +kernel
theorem dX4_quantities_6 : decode cX4_quantities 6 = .ok (.i2l, 1) := by decide +kernel
theorem dX4_quantities_7 : decode cX4_quantities 7 = .ok (.bipush 100, 2) := by decide +kernel
theorem dX4_quantities_9 : decode cX4_quantities 9 = .ok (.aload_n 0, 1) := by decide +kernel
theorem dX4_quantities_10 : decode cX4_quantities 10 = .ok (.getfield 33, 3) := by decide +kernel
theorem dX4_quantities_13 : decode cX4_quantities 13 = .ok (.iload_n 1, 1) := by decide +kernel
theorem dX4_quantities_14 : decode cX4_quantities 14 = .ok (.iaload, 1) := by decide +kernel
theorem dX4_quantities_15 : decode cX4_quantities 15 = .ok (.iadd, 1) := by decide +kernel
theorem dX4_quantities_16 : decode cX4_quantities 16 = .ok (.i2l, 1) := by decide +kernel
theorem dX4_quantities_17 : decode cX4_quantities 17 = .ok (.lmul, 1) := by decide +kernel
theorem dX4_quantities_18 : decode cX4_quantities 18 = .ok (.ldc2_w 131, 3) := by decide +kernel
theorem dX4_quantities_21 : decode cX4_quantities 21 = .ok (.ladd, 1) := by decide +kernel
theorem dX4_quantities_22 : decode cX4_quantities 22 = .ok (.ldc2_w 133, 3) := by decide +kernel
theorem dX4_quantities_25 : decode cX4_quantities 25 = .ok (.ldiv, 1) := by decide +kernel
theorem dX4_quantities_26 : decode cX4_quantities 26 = .ok (.l2i, 1) := by decide +kernel
theorem dX4_quantities_27 : decode cX4_quantities 27 = .ok (.ireturn, 1) := by decide +kernel
set_option maxRecDepth 20000 in
theorem ggX4_quantity_X4_isItem : GoodIn wsX4_quantity wsX4_isItem := goodIn_r _ [5, 6, 7, 8, 4, 9, 28, 29, 30, 31, 32, 33, 34, 35, 36, 37, 38, 39, 40, 41, 42, 43, 44, 45, 46, 47, 48, 49, 50, 51, 52, 53] (by decide +kernel) (by decide +kernel)
set_option maxRecDepth 20000 in
theorem gX4_quantity_X4_isItem : GoodIn wsX4_quantity (wsV RX4 121 RX4 yX4_isItem wsX4_isItem) := goodIn_app (goodIn_of _ (by decide +kernel)) ggX4_quantity_X4_isItem
set_option maxRecDepth 20000 in
theorem ggX4_quantity_X4_isHeading : GoodIn wsX4_quantity wsX4_isHeading := goodIn_r _ [13, 14, 28, 29, 30, 31, 32, 33, 34, 35, 36, 37, 38, 39, 40, 41, 42, 43, 44, 45, 46, 47, 48, 49, 50, 51, 52, 53] (by decide +kernel) (by decide +kernel)
set_option maxRecDepth 20000 in
theorem gX4_quantity_X4_isHeading : GoodIn wsX4_quantity (wsV RX4 118 RX4 yX4_isHeading wsX4_isHeading) := goodIn_app (goodIn_of _ (by decide +kernel)) ggX4_quantity_X4_isHeading
set_option maxRecDepth 20000 in
theorem ggX4_quantity_X4_goes : GoodIn wsX4_quantity wsX4_goes := goodIn_r _ [18, 19, 28, 29, 30, 31, 32, 33, 34, 35, 36, 37, 38, 39, 40, 41, 42, 43, 44, 45, 46, 47, 48, 49, 50, 51, 52, 53] (by decide +kernel) (by decide +kernel)
set_option maxRecDepth 20000 in
theorem gX4_quantity_X4_goes : GoodIn wsX4_quantity (wsV RX4 65 RX4 yX4_goes wsX4_goes) := goodIn_app (goodIn_of _ (by decide +kernel)) ggX4_quantity_X4_goes
set_option maxRecDepth 20000 in
theorem ggX4_quantity_X4_quantities : GoodIn wsX4_quantity wsX4_quantities := goodIn_r _ [23, 24, 25, 26, 27, 28, 29, 30, 31, 32, 33, 34, 35, 36, 37, 38, 39, 40, 41, 42, 43, 44, 45, 46, 47, 48, 49, 50, 51, 52, 53] (by decide +kernel) (by decide +kernel)
set_option maxRecDepth 20000 in
theorem gX4_quantity_X4_quantities : GoodIn wsX4_quantity (wsV RX4 135 RX4 yX4_quantities wsX4_quantities) := goodIn_app (goodIn_of _ (by decide +kernel)) ggX4_quantity_X4_quantities
theorem dX4_quantity_0 : decode cX4_quantity 0 = .ok (.aload_n 0, 1) := by decide +kernel
theorem dX4_quantity_1 : decode cX4_quantity 1 = .ok (.iload_n 1, 1) := by decide +kernel
theorem dX4_quantity_2 : decode cX4_quantity 2 = .ok (.invokevirtual 121, 3) := by decide +kernel
theorem dX4_quantity_5 : decode cX4_quantity 5 = .ok (.istore_n 2, 1) := by decide +kernel
theorem dX4_quantity_6 : decode cX4_quantity 6 = .ok (.aload_n 0, 1) := by decide +kernel
theorem dX4_quantity_7 : decode cX4_quantity 7 = .ok (.iload_n 2, 1) := by decide +kernel
theorem dX4_quantity_8 : decode cX4_quantity 8 = .ok (.iload_n 2, 1) := by decide +kernel
theorem dX4_quantity_9 : decode cX4_quantity 9 = .ok (.ifCond .eq 15, 3) := by decide +kernel
theorem dX4_quantity_12 : decode cX4_quantity 12 = .ok (.aload_n 0, 1) := by decide +kernel
theorem dX4_quantity_13 : decode cX4_quantity 13 = .ok (.iload_n 1, 1) := by decide +kernel
theorem dX4_quantity_14 : decode cX4_quantity 14 = .ok (.invokevirtual 118, 3) := by decide +kernel
theorem dX4_quantity_17 : decode cX4_quantity 17 = .ok (.ifCond .ne 7, 3) := by decide +kernel
theorem dX4_quantity_20 : decode cX4_quantity 20 = .ok (.iconst 1, 1) := by decide +kernel
theorem dX4_quantity_21 : decode cX4_quantity 21 = .ok (.goto 4, 3) := by decide +kernel
theorem dX4_quantity_24 : decode cX4_quantity 24 = .ok (.iconst 0, 1) := by decide +kernel
theorem dX4_quantity_25 : decode cX4_quantity 25 = .ok (.iconst 1, 1) := by decide +kernel
theorem dX4_quantity_26 : decode cX4_quantity 26 = .ok (.invokevirtual 65, 3) := by decide +kernel
theorem dX4_quantity_29 : decode cX4_quantity 29 = .ok (.ifCond .eq 11, 3) := by decide +kernel
theorem dX4_quantity_32 : decode cX4_quantity 32 = .ok (.aload_n 0, 1) := by decide +kernel
theorem dX4_quantity_33 : decode cX4_quantity 33 = .ok (.iload_n 1, 1) := by decide +kernel
theorem dX4_quantity_34 : decode cX4_quantity 34 = .ok (.invokevirtual 135, 3) := by decide +kernel
theorem dX4_quantity_37 : decode cX4_quantity 37 = .ok (.goto 4, 3) := by decide +kernel
theorem dX4_quantity_40 : decode cX4_quantity 40 = .ok (.iconst 0, 1) := by decide +kernel
theorem dX4_quantity_41 : decode cX4_quantity 41 = .ok (.ireturn, 1) := by decide +kernel
set_option maxRecDepth 20000 in
theorem ggX4_fills_X4_isHeading : GoodIn wsX4_fills wsX4_isHeading := goodIn_r _ [10, 4, 25, 26, 27, 28, 29, 30, 31, 32, 33, 34, 35, 36, 37, 38, 39, 40, 41, 42, 43, 44, 45, 46, 47, 48, 49, 50] (by decide +kernel) (by decide +kernel)
set_option maxRecDepth 20000 in
theorem gX4_fills_X4_isHeading : GoodIn wsX4_fills (wsV RX4 118 RX4 yX4_isHeading wsX4_isHeading) := goodIn_app (goodIn_of _ (by decide +kernel)) ggX4_fills_X4_isHeading
set_option maxRecDepth 20000 in
theorem ggX4_fills_X4_quantities : GoodIn wsX4_fills wsX4_quantities := goodIn_r _ [14, 15, 16, 17, 18, 25, 26, 27, 28, 29, 30, 31, 32, 33, 34, 35, 36, 37, 38, 39, 40, 41, 42, 43, 44, 45, 46, 47, 48, 49, 50] (by decide +kernel) (by decide +kernel)
set_option maxRecDepth 20000 in
theorem gX4_fills_X4_quantities : GoodIn wsX4_fills (wsV RX4 135 RX4 yX4_quantities wsX4_quantities) := goodIn_app (goodIn_of _ (by decide +kernel)) ggX4_fills_X4_quantities
set_option maxRecDepth 20000 in
theorem ggX4_fills_X4_cents : GoodIn wsX4_fills wsX4_cents := goodIn_r _ [22, 23, 24, 25, 26, 27, 28, 29, 30, 31, 32, 33, 34, 35, 36, 37, 38, 39, 40, 41, 42, 43, 44, 45, 46, 47, 48, 49, 50] (by decide +kernel) (by decide +kernel)
set_option maxRecDepth 20000 in
theorem gX4_fills_X4_cents : GoodIn wsX4_fills (wsV RX4 114 RX4 yX4_cents wsX4_cents) := goodIn_app (goodIn_of _ (by decide +kernel)) ggX4_fills_X4_cents
theorem dX4_fills_0 : decode cX4_fills 0 = .ok (.iconst 0, 1) := by decide +kernel
theorem dX4_fills_1 : decode cX4_fills 1 = .ok (.istore_n 1, 1) := by decide +kernel
theorem dX4_fills_2 : decode cX4_fills 2 = .ok (.iload_n 1, 1) := by decide +kernel
theorem dX4_fills_3 : decode cX4_fills 3 = .ok (.aload_n 0, 1) := by decide +kernel
theorem dX4_fills_4 : decode cX4_fills 4 = .ok (.getfield 55, 3) := by decide +kernel
theorem dX4_fills_7 : decode cX4_fills 7 = .ok (.if_icmp .ge 16, 3) := by decide +kernel
theorem dX4_fills_10 : decode cX4_fills 10 = .ok (.aload_n 0, 1) := by decide +kernel
theorem dX4_fills_11 : decode cX4_fills 11 = .ok (.getfield 45, 3) := by decide +kernel
theorem dX4_fills_14 : decode cX4_fills 14 = .ok (.iload_n 1, 1) := by decide +kernel
theorem dX4_fills_15 : decode cX4_fills 15 = .ok (.lconst 0, 1) := by decide +kernel
theorem dX4_fills_16 : decode cX4_fills 16 = .ok (.lastore, 1) := by decide +kernel
theorem dX4_fills_17 : decode cX4_fills 17 = .ok (.iinc 1 1, 3) := by decide +kernel
theorem dX4_fills_20 : decode cX4_fills 20 = .ok (.goto (-18), 3) := by decide +kernel
theorem dX4_fills_23 : decode cX4_fills 23 = .ok (.aload_n 0, 1) := by decide +kernel
theorem dX4_fills_24 : decode cX4_fills 24 = .ok (.getfield 55, 3) := by decide +kernel
theorem dX4_fills_27 : decode cX4_fills 27 = .ok (.iconst 1, 1) := by decide +kernel
theorem dX4_fills_28 : decode cX4_fills 28 = .ok (.isub, 1) := by decide +kernel
theorem dX4_fills_29 : decode cX4_fills 29 = .ok (.istore_n 1, 1) := by decide +kernel
theorem dX4_fills_30 : decode cX4_fills 30 = .ok (.iload_n 1, 1) := by decide +kernel
theorem dX4_fills_31 : decode cX4_fills 31 = .ok (.ifCond .lt 91, 3) := by decide +kernel
theorem dX4_fills_34 : decode cX4_fills 34 = .ok (.aload_n 0, 1) := by decide +kernel
theorem dX4_fills_35 : decode cX4_fills 35 = .ok (.iload_n 1, 1) := by decide +kernel
theorem dX4_fills_36 : decode cX4_fills 36 = .ok (.invokevirtual 118, 3) := by decide +kernel
theorem dX4_fills_39 : decode cX4_fills 39 = .ok (.ifCond .ne 47, 3) := by decide +kernel
theorem dX4_fills_42 : decode cX4_fills 42 = .ok (.aload_n 0, 1) := by decide +kernel
theorem dX4_fills_43 : decode cX4_fills 43 = .ok (.iload_n 1, 1) := by decide +kernel
theorem dX4_fills_44 : decode cX4_fills 44 = .ok (.invokevirtual 135, 3) := by decide +kernel
theorem dX4_fills_47 : decode cX4_fills 47 = .ok (.i2l, 1) := by decide +kernel
theorem dX4_fills_48 : decode cX4_fills 48 = .ok (.aload_n 0, 1) := by decide +kernel
theorem dX4_fills_49 : decode cX4_fills 49 = .ok (.getfield 39, 3) := by decide +kernel
theorem dX4_fills_52 : decode cX4_fills 52 = .ok (.iload_n 1, 1) := by decide +kernel
theorem dX4_fills_53 : decode cX4_fills 53 = .ok (.iaload, 1) := by decide +kernel
theorem dX4_fills_54 : decode cX4_fills 54 = .ok (.i2l, 1) := by decide +kernel
theorem dX4_fills_55 : decode cX4_fills 55 = .ok (.ladd, 1) := by decide +kernel
theorem dX4_fills_56 : decode cX4_fills 56 = .ok (.lstore_n 2, 1) := by decide +kernel
theorem dX4_fills_57 : decode cX4_fills 57 = .ok (.aload_n 0, 1) := by decide +kernel
theorem dX4_fills_58 : decode cX4_fills 58 = .ok (.getfield 45, 3) := by decide +kernel
theorem dX4_fills_61 : decode cX4_fills 61 = .ok (.iload_n 1, 1) := by decide +kernel
theorem dX4_fills_62 : decode cX4_fills 62 = .ok (.lload_n 2, 1) := by decide +kernel
theorem dX4_fills_63 : decode cX4_fills 63 = .ok (.lconst 0, 1) := by decide +kernel
theorem dX4_fills_64 : decode cX4_fills 64 = .ok (.lcmp, 1) := by decide +kernel
theorem dX4_fills_65 : decode cX4_fills 65 = .ok (.ifCond .ge 7, 3) := by decide +kernel
theorem dX4_fills_68 : decode cX4_fills 68 = .ok (.lconst 0, 1) := by decide +kernel
theorem dX4_fills_69 : decode cX4_fills 69 = .ok (.goto 16, 3) := by decide +kernel
theorem dX4_fills_72 : decode cX4_fills 72 = .ok (.lload_n 2, 1) := by decide +kernel
theorem dX4_fills_73 : decode cX4_fills 73 = .ok (.aload_n 0, 1) := by decide +kernel
theorem dX4_fills_74 : decode cX4_fills 74 = .ok (.aload_n 0, 1) := by decide +kernel
theorem dX4_fills_75 : decode cX4_fills 75 = .ok (.getfield 30, 3) := by decide +kernel
theorem dX4_fills_78 : decode cX4_fills 78 = .ok (.iload_n 1, 1) := by decide +kernel
theorem dX4_fills_79 : decode cX4_fills 79 = .ok (.iaload, 1) := by decide +kernel
theorem dX4_fills_80 : decode cX4_fills 80 = .ok (.invokevirtual 114, 3) := by decide +kernel
theorem dX4_fills_83 : decode cX4_fills 83 = .ok (.i2l, 1) := by decide +kernel
theorem dX4_fills_84 : decode cX4_fills 84 = .ok (.lmul, 1) := by decide +kernel
theorem dX4_fills_85 : decode cX4_fills 85 = .ok (.lastore, 1) := by decide +kernel
theorem dX4_fills_86 : decode cX4_fills 86 = .ok (.aload_n 0, 1) := by decide +kernel
theorem dX4_fills_87 : decode cX4_fills 87 = .ok (.getfield 27, 3) := by decide +kernel
theorem dX4_fills_90 : decode cX4_fills 90 = .ok (.iload_n 1, 1) := by decide +kernel
theorem dX4_fills_91 : decode cX4_fills 91 = .ok (.iaload, 1) := by decide +kernel
theorem dX4_fills_92 : decode cX4_fills 92 = .ok (.iconst (-1), 1) := by decide +kernel
theorem dX4_fills_93 : decode cX4_fills 93 = .ok (.if_icmp .eq 23, 3) := by decide +kernel
theorem dX4_fills_96 : decode cX4_fills 96 = .ok (.aload_n 0, 1) := by decide +kernel
theorem dX4_fills_97 : decode cX4_fills 97 = .ok (.getfield 45, 3) := by decide +kernel
theorem dX4_fills_100 : decode cX4_fills 100 = .ok (.aload_n 0, 1) := by decide +kernel
theorem dX4_fills_101 : decode cX4_fills 101 = .ok (.getfield 27, 3) := by decide +kernel
theorem dX4_fills_104 : decode cX4_fills 104 = .ok (.iload_n 1, 1) := by decide +kernel
theorem dX4_fills_105 : decode cX4_fills 105 = .ok (.iaload, 1) := by decide +kernel
theorem dX4_fills_106 : decode cX4_fills 106 = .ok (.dup2, 1) := by decide +kernel
theorem dX4_fills_107 : decode cX4_fills 107 = .ok (.laload, 1) := by decide +kernel
theorem dX4_fills_108 : decode cX4_fills 108 = .ok (.aload_n 0, 1) := by decide +kernel
theorem dX4_fills_109 : decode cX4_fills 109 = .ok (.getfield 45, 3) := by decide +kernel
theorem dX4_fills_112 : decode cX4_fills 112 = .ok (.iload_n 1, 1) := by decide +kernel
theorem dX4_fills_113 : decode cX4_fills 113 = .ok (.laload, 1) := by decide +kernel
theorem dX4_fills_114 : decode cX4_fills 114 = .ok (.ladd, 1) := by decide +kernel
theorem dX4_fills_115 : decode cX4_fills 115 = .ok (.lastore, 1) := by decide +kernel
theorem dX4_fills_116 : decode cX4_fills 116 = .ok (.iinc 1 (-1), 3) := by decide +kernel
theorem dX4_fills_119 : decode cX4_fills 119 = .ok (.goto (-89), 3) := by decide +kernel
theorem dX4_fills_122 : decode cX4_fills 122 = .ok (.return_, 1) := by decide +kernel
set_option maxRecDepth 20000 in
theorem ggX4_sum_X4_isItem : GoodIn wsX4_sum wsX4_isItem := goodIn_r _ [6, 7, 8, 9, 5, 10, 41, 42, 43, 44, 45, 46, 47, 48, 49, 50, 51, 52, 53, 54, 55, 56, 57, 58, 59, 60, 61, 62, 63, 64, 65, 66] (by decide +kernel) (by decide +kernel)
set_option maxRecDepth 20000 in
theorem gX4_sum_X4_isItem : GoodIn wsX4_sum (wsV RX4 121 RX4 yX4_isItem wsX4_isItem) := goodIn_app (goodIn_of _ (by decide +kernel)) ggX4_sum_X4_isItem
set_option maxRecDepth 20000 in
theorem ggX4_sum_X4_goes : GoodIn wsX4_sum wsX4_goes := goodIn_r _ [14, 15, 41, 42, 43, 44, 45, 46, 47, 48, 49, 50, 51, 52, 53, 54, 55, 56, 57, 58, 59, 60, 61, 62, 63, 64, 65, 66] (by decide +kernel) (by decide +kernel)
set_option maxRecDepth 20000 in
theorem gX4_sum_X4_goes : GoodIn wsX4_sum (wsV RX4 65 RX4 yX4_goes wsX4_goes) := goodIn_app (goodIn_of _ (by decide +kernel)) ggX4_sum_X4_goes
set_option maxRecDepth 20000 in
theorem ggX4_sum_X4_fills : GoodIn wsX4_sum wsX4_fills := goodIn_r _ [19, 7, 1, 20, 21, 22, 23, 24, 25, 5, 26, 27, 28, 29, 30, 31, 32, 33, 34, 35, 36, 37, 38, 39, 40, 41, 42, 43, 44, 45, 46, 47, 48, 49, 50, 51, 52, 53, 54, 55, 56, 57, 58, 59, 60, 61, 62, 63, 64, 65, 66] (by decide +kernel) (by decide +kernel)
set_option maxRecDepth 20000 in
theorem gX4_sum_X4_fills : GoodIn wsX4_sum (wsV RX4 138 RX4 yX4_fills wsX4_fills) := goodIn_app (goodIn_of _ (by decide +kernel)) ggX4_sum_X4_fills
theorem dX4_sum_0 : decode cX4_sum 0 = .ok (.aload_n 0, 1) := by decide +kernel
theorem dX4_sum_1 : decode cX4_sum 1 = .ok (.aload_n 0, 1) := by decide +kernel
theorem dX4_sum_2 : decode cX4_sum 2 = .ok (.iload_n 1, 1) := by decide +kernel
theorem dX4_sum_3 : decode cX4_sum 3 = .ok (.invokevirtual 121, 3) := by decide +kernel
theorem dX4_sum_6 : decode cX4_sum 6 = .ok (.iconst 1, 1) := by decide +kernel
theorem dX4_sum_7 : decode cX4_sum 7 = .ok (.iconst 1, 1) := by decide +kernel
theorem dX4_sum_8 : decode cX4_sum 8 = .ok (.invokevirtual 65, 3) := by decide +kernel
theorem dX4_sum_11 : decode cX4_sum 11 = .ok (.ifCond .ne 5, 3) := by decide +kernel
theorem dX4_sum_14 : decode cX4_sum 14 = .ok (.lconst 0, 1) := by decide +kernel
theorem dX4_sum_15 : decode cX4_sum 15 = .ok (.lreturn, 1) := by decide +kernel
theorem dX4_sum_16 : decode cX4_sum 16 = .ok (.aload_n 0, 1) := by decide +kernel
theorem dX4_sum_17 : decode cX4_sum 17 = .ok (.invokevirtual 138, 3) := by decide +kernel
theorem dX4_sum_20 : decode cX4_sum 20 = .ok (.aload_n 0, 1) := by decide +kernel
theorem dX4_sum_21 : decode cX4_sum 21 = .ok (.getfield 45, 3) := by decide +kernel
theorem dX4_sum_24 : decode cX4_sum 24 = .ok (.iload_n 1, 1) := by decide +kernel
theorem dX4_sum_25 : decode cX4_sum 25 = .ok (.laload, 1) := by decide +kernel
theorem dX4_sum_26 : decode cX4_sum 26 = .ok (.lreturn, 1) := by decide +kernel
set_option maxRecDepth 20000 in
theorem ggX4_total_X4_fills : GoodIn wsX4_total wsX4_fills := goodIn_r _ [8, 2, 3, 9, 10, 11, 12, 13, 14, 7, 15, 16, 17, 18, 19, 20, 21, 22, 23, 24, 25, 26, 27, 28, 29, 30, 31, 32, 33, 34, 35, 36, 37, 38, 39, 40, 41, 42, 43, 44, 45, 46, 47, 48, 49, 50, 51, 52, 53, 54, 55] (by decide +kernel) (by decide +kernel)
set_option maxRecDepth 20000 in
theorem gX4_total_X4_fills : GoodIn wsX4_total (wsV RX4 138 RX4 yX4_fills wsX4_fills) := goodIn_app (goodIn_of _ (by decide +kernel)) ggX4_total_X4_fills
set_option maxRecDepth 20000 in
theorem ggX4_total_X4_isHeading : GoodIn wsX4_total wsX4_isHeading := goodIn_r _ [15, 10, 30, 31, 32, 33, 34, 35, 36, 37, 38, 39, 40, 41, 42, 43, 44, 45, 46, 47, 48, 49, 50, 51, 52, 53, 54, 55] (by decide +kernel) (by decide +kernel)
set_option maxRecDepth 20000 in
theorem gX4_total_X4_isHeading : GoodIn wsX4_total (wsV RX4 118 RX4 yX4_isHeading wsX4_isHeading) := goodIn_app (goodIn_of _ (by decide +kernel)) ggX4_total_X4_isHeading
theorem dX4_total_0 : decode cX4_total 0 = .ok (.aload_n 0, 1) := by decide +kernel
theorem dX4_total_1 : decode cX4_total 1 = .ok (.iconst 0, 1) := by decide +kernel
theorem dX4_total_2 : decode cX4_total 2 = .ok (.putfield 52, 3) := by decide +kernel
theorem dX4_total_5 : decode cX4_total 5 = .ok (.aload_n 0, 1) := by decide +kernel
theorem dX4_total_6 : decode cX4_total 6 = .ok (.invokevirtual 138, 3) := by decide +kernel
theorem dX4_total_9 : decode cX4_total 9 = .ok (.lconst 0, 1) := by decide +kernel
theorem dX4_total_10 : decode cX4_total 10 = .ok (.lstore_n 1, 1) := by decide +kernel
theorem dX4_total_11 : decode cX4_total 11 = .ok (.iconst 0, 1) := by decide +kernel
theorem dX4_total_12 : decode cX4_total 12 = .ok (.istore_n 3, 1) := by decide +kernel
theorem dX4_total_13 : decode cX4_total 13 = .ok (.iload_n 3, 1) := by decide +kernel
theorem dX4_total_14 : decode cX4_total 14 = .ok (.aload_n 0, 1) := by decide +kernel
theorem dX4_total_15 : decode cX4_total 15 = .ok (.getfield 55, 3) := by decide +kernel
theorem dX4_total_18 : decode cX4_total 18 = .ok (.if_icmp .ge 30, 3) := by decide +kernel
theorem dX4_total_21 : decode cX4_total 21 = .ok (.lload_n 1, 1) := by decide +kernel
theorem dX4_total_22 : decode cX4_total 22 = .ok (.aload_n 0, 1) := by decide +kernel
theorem dX4_total_23 : decode cX4_total 23 = .ok (.iload_n 3, 1) := by decide +kernel
theorem dX4_total_24 : decode cX4_total 24 = .ok (.invokevirtual 118, 3) := by decide +kernel
theorem dX4_total_27 : decode cX4_total 27 = .ok (.ifCond .eq 7, 3) := by decide +kernel
theorem dX4_total_30 : decode cX4_total 30 = .ok (.lconst 0, 1) := by decide +kernel
theorem dX4_total_31 : decode cX4_total 31 = .ok (.goto 9, 3) := by decide +kernel
theorem dX4_total_34 : decode cX4_total 34 = .ok (.aload_n 0, 1) := by decide +kernel
theorem dX4_total_35 : decode cX4_total 35 = .ok (.getfield 45, 3) := by decide +kernel
theorem dX4_total_38 : decode cX4_total 38 = .ok (.iload_n 3, 1) := by decide +kernel
theorem dX4_total_39 : decode cX4_total 39 = .ok (.laload, 1) := by decide +kernel
theorem dX4_total_40 : decode cX4_total 40 = .ok (.ladd, 1) := by decide +kernel
theorem dX4_total_41 : decode cX4_total 41 = .ok (.lstore_n 1, 1) := by decide +kernel
theorem dX4_total_42 : decode cX4_total 42 = .ok (.iinc 3 1, 3) := by decide +kernel
theorem dX4_total_45 : decode cX4_total 45 = .ok (.goto (-32), 3) := by decide +kernel
theorem dX4_total_48 : decode cX4_total 48 = .ok (.lload_n 1, 1) := by decide +kernel
theorem dX4_total_49 : decode cX4_total 49 = .ok (.lreturn, 1) := by decide +kernel
theorem dX4_isBelow_0 : decode cX4_isBelow 0 = .ok (.iload_n 1, 1) := by decide +kernel
theorem dX4_isBelow_1 : decode cX4_isBelow 1 = .ok (.istore_n 3, 1) := by decide +kernel
theorem dX4_isBelow_2 : decode cX4_isBelow 2 = .ok (.iload_n 3, 1) := by decide +kernel
theorem dX4_isBelow_3 : decode cX4_isBelow 3 = .ok (.iload_n 2, 1) := by decide +kernel
theorem dX4_isBelow_4 : decode cX4_isBelow 4 = .ok (.if_icmp .le 13, 3) := by decide +kernel
theorem dX4_isBelow_7 : decode cX4_isBelow 7 = .ok (.aload_n 0, 1) := by decide +kernel
theorem dX4_isBelow_8 : decode cX4_isBelow 8 = .ok (.getfield 27, 3) := by decide +kernel
theorem dX4_isBelow_11 : decode cX4_isBelow 11 = .ok (.iload_n 3, 1) := by decide +kernel
theorem dX4_isBelow_12 : decode cX4_isBelow 12 = .ok (.iaload, 1) := by decide +kernel
theorem dX4_isBelow_13 : decode cX4_isBelow 13 = .ok (.istore_n 3, 1) := by decide +kernel
theorem dX4_isBelow_14 : decode cX4_isBelow 14 = .ok (.goto (-12), 3) := by decide +kernel
theorem dX4_isBelow_17 : decode cX4_isBelow 17 = .ok (.iload_n 3, 1) := by decide +kernel
theorem dX4_isBelow_18 : decode cX4_isBelow 18 = .ok (.iload_n 2, 1) := by decide +kernel
theorem dX4_isBelow_19 : decode cX4_isBelow 19 = .ok (.if_icmp .ne 7, 3) := by decide +kernel
theorem dX4_isBelow_22 : decode cX4_isBelow 22 = .ok (.iconst 1, 1) := by decide +kernel
theorem dX4_isBelow_23 : decode cX4_isBelow 23 = .ok (.goto 4, 3) := by decide +kernel
theorem dX4_isBelow_26 : decode cX4_isBelow 26 = .ok (.iconst 0, 1) := by decide +kernel
theorem dX4_isBelow_27 : decode cX4_isBelow 27 = .ok (.ireturn, 1) := by decide +kernel
set_option maxRecDepth 20000 in
theorem ggX4_dearest_X4_isItem : GoodIn wsX4_dearest wsX4_isItem := goodIn_r _ [7, 1, 8, 9, 6, 10, 45, 46, 47, 48, 49, 50, 51, 52, 53, 54, 55, 56, 57, 58, 59, 60, 61, 62, 63, 64, 65, 66, 67, 68, 69, 70] (by decide +kernel) (by decide +kernel)
set_option maxRecDepth 20000 in
theorem gX4_dearest_X4_isItem : GoodIn wsX4_dearest (wsV RX4 121 RX4 yX4_isItem wsX4_isItem) := goodIn_app (goodIn_of _ (by decide +kernel)) ggX4_dearest_X4_isItem
set_option maxRecDepth 20000 in
theorem ggX4_dearest_X4_goes : GoodIn wsX4_dearest wsX4_goes := goodIn_r _ [14, 15, 45, 46, 47, 48, 49, 50, 51, 52, 53, 54, 55, 56, 57, 58, 59, 60, 61, 62, 63, 64, 65, 66, 67, 68, 69, 70] (by decide +kernel) (by decide +kernel)
set_option maxRecDepth 20000 in
theorem gX4_dearest_X4_goes : GoodIn wsX4_dearest (wsV RX4 65 RX4 yX4_goes wsX4_goes) := goodIn_app (goodIn_of _ (by decide +kernel)) ggX4_dearest_X4_goes
set_option maxRecDepth 20000 in
theorem ggX4_dearest_X4_fills : GoodIn wsX4_dearest wsX4_fills := goodIn_r _ [19, 1, 2, 20, 21, 22, 23, 24, 25, 6, 26, 27, 28, 29, 30, 31, 32, 33, 34, 35, 36, 37, 38, 39, 40, 45, 46, 47, 48, 49, 50, 51, 52, 53, 54, 55, 56, 57, 58, 59, 60, 61, 62, 63, 64, 65, 66, 67, 68, 69, 70] (by decide +kernel) (by decide +kernel)
set_option maxRecDepth 20000 in
theorem gX4_dearest_X4_fills : GoodIn wsX4_dearest (wsV RX4 138 RX4 yX4_fills wsX4_fills) := goodIn_app (goodIn_of _ (by decide +kernel)) ggX4_dearest_X4_fills
set_option maxRecDepth 20000 in
theorem ggX4_dearest_X4_isHeading : GoodIn wsX4_dearest wsX4_isHeading := goodIn_r _ [26, 21, 45, 46, 47, 48, 49, 50, 51, 52, 53, 54, 55, 56, 57, 58, 59, 60, 61, 62, 63, 64, 65, 66, 67, 68, 69, 70] (by decide +kernel) (by decide +kernel)
set_option maxRecDepth 20000 in
theorem gX4_dearest_X4_isHeading : GoodIn wsX4_dearest (wsV RX4 118 RX4 yX4_isHeading wsX4_isHeading) := goodIn_app (goodIn_of _ (by decide +kernel)) ggX4_dearest_X4_isHeading
set_option maxRecDepth 20000 in
theorem ggX4_dearest_X4_isBelow : GoodIn wsX4_dearest wsX4_isBelow := goodIn_r _ [44, 22, 45, 46, 47, 48, 49, 50, 51, 52, 53, 54, 55, 56, 57, 58, 59, 60, 61, 62, 63, 64, 65, 66, 67, 68, 69, 70] (by decide +kernel) (by decide +kernel)
set_option maxRecDepth 20000 in
theorem gX4_dearest_X4_isBelow : GoodIn wsX4_dearest (wsV RX4 141 RX4 yX4_isBelow wsX4_isBelow) := goodIn_app (goodIn_of _ (by decide +kernel)) ggX4_dearest_X4_isBelow
theorem dX4_dearest_0 : decode cX4_dearest 0 = .ok (.aload_n 0, 1) := by decide +kernel
theorem dX4_dearest_1 : decode cX4_dearest 1 = .ok (.aload_n 0, 1) := by decide +kernel
theorem dX4_dearest_2 : decode cX4_dearest 2 = .ok (.iload_n 1, 1) := by decide +kernel
theorem dX4_dearest_3 : decode cX4_dearest 3 = .ok (.invokevirtual 121, 3) := by decide +kernel
theorem dX4_dearest_6 : decode cX4_dearest 6 = .ok (.iconst 1, 1) := by decide +kernel
theorem dX4_dearest_7 : decode cX4_dearest 7 = .ok (.iconst 1, 1) := by decide +kernel
theorem dX4_dearest_8 : decode cX4_dearest 8 = .ok (.invokevirtual 65, 3) := by decide +kernel
theorem dX4_dearest_11 : decode cX4_dearest 11 = .ok (.ifCond .ne 5, 3) := by decide +kernel
theorem dX4_dearest_14 : decode cX4_dearest 14 = .ok (.iconst 0, 1) := by decide +kernel
theorem dX4_dearest_15 : decode cX4_dearest 15 = .ok (.ireturn, 1) := by decide +kernel
theorem dX4_dearest_16 : decode cX4_dearest 16 = .ok (.aload_n 0, 1) := by decide +kernel
theorem dX4_dearest_17 : decode cX4_dearest 17 = .ok (.invokevirtual 138, 3) := by decide +kernel
theorem dX4_dearest_20 : decode cX4_dearest 20 = .ok (.iconst (-1), 1) := by decide +kernel
theorem dX4_dearest_21 : decode cX4_dearest 21 = .ok (.istore_n 2, 1) := by decide +kernel
theorem dX4_dearest_22 : decode cX4_dearest 22 = .ok (.iload_n 1, 1) := by decide +kernel
theorem dX4_dearest_23 : decode cX4_dearest 23 = .ok (.istore_n 3, 1) := by decide +kernel
theorem dX4_dearest_24 : decode cX4_dearest 24 = .ok (.iload_n 3, 1) := by decide +kernel
theorem dX4_dearest_25 : decode cX4_dearest 25 = .ok (.aload_n 0, 1) := by decide +kernel
theorem dX4_dearest_26 : decode cX4_dearest 26 = .ok (.getfield 55, 3) := by decide +kernel
theorem dX4_dearest_29 : decode cX4_dearest 29 = .ok (.if_icmp .ge 65, 3) := by decide +kernel
theorem dX4_dearest_32 : decode cX4_dearest 32 = .ok (.aload_n 0, 1) := by decide +kernel
theorem dX4_dearest_33 : decode cX4_dearest 33 = .ok (.iload_n 3, 1) := by decide +kernel
theorem dX4_dearest_34 : decode cX4_dearest 34 = .ok (.invokevirtual 118, 3) := by decide +kernel
theorem dX4_dearest_37 : decode cX4_dearest 37 = .ok (.ifCond .ne 16, 3) := by decide +kernel
theorem dX4_dearest_40 : decode cX4_dearest 40 = .ok (.aload_n 0, 1) := by decide +kernel
theorem dX4_dearest_41 : decode cX4_dearest 41 = .ok (.iload_n 3, 1) := by decide +kernel
theorem dX4_dearest_42 : decode cX4_dearest 42 = .ok (.iload_n 1, 1) := by decide +kernel
theorem dX4_dearest_43 : decode cX4_dearest 43 = .ok (.invokevirtual 141, 3) := by decide +kernel
theorem dX4_dearest_46 : decode cX4_dearest 46 = .ok (.ifCond .eq 7, 3) := by decide +kernel
theorem dX4_dearest_49 : decode cX4_dearest 49 = .ok (.iconst 1, 1) := by decide +kernel
theorem dX4_dearest_50 : decode cX4_dearest 50 = .ok (.goto 4, 3) := by decide +kernel
theorem dX4_dearest_53 : decode cX4_dearest 53 = .ok (.iconst 0, 1) := by decide +kernel
theorem dX4_dearest_54 : decode cX4_dearest 54 = .ok (.istore 4, 2) := by decide +kernel
theorem dX4_dearest_56 : decode cX4_dearest 56 = .ok (.iload 4, 2) := by decide +kernel
theorem dX4_dearest_58 : decode cX4_dearest 58 = .ok (.ifCond .eq 28, 3) := by decide +kernel
theorem dX4_dearest_61 : decode cX4_dearest 61 = .ok (.iload_n 2, 1) := by decide +kernel
theorem dX4_dearest_62 : decode cX4_dearest 62 = .ok (.iconst (-1), 1) := by decide +kernel
theorem dX4_dearest_63 : decode cX4_dearest 63 = .ok (.if_icmp .eq 19, 3) := by decide +kernel
theorem dX4_dearest_66 : decode cX4_dearest 66 = .ok (.aload_n 0, 1) := by decide +kernel
theorem dX4_dearest_67 : decode cX4_dearest 67 = .ok (.getfield 45, 3) := by decide +kernel
theorem dX4_dearest_70 : decode cX4_dearest 70 = .ok (.iload_n 3, 1) := by decide +kernel
theorem dX4_dearest_71 : decode cX4_dearest 71 = .ok (.laload, 1) := by decide +kernel
theorem dX4_dearest_72 : decode cX4_dearest 72 = .ok (.aload_n 0, 1) := by decide +kernel
theorem dX4_dearest_73 : decode cX4_dearest 73 = .ok (.getfield 45, 3) := by decide +kernel
theorem dX4_dearest_76 : decode cX4_dearest 76 = .ok (.iload_n 2, 1) := by decide +kernel
theorem dX4_dearest_77 : decode cX4_dearest 77 = .ok (.laload, 1) := by decide +kernel
theorem dX4_dearest_78 : decode cX4_dearest 78 = .ok (.lcmp, 1) := by decide +kernel
theorem dX4_dearest_79 : decode cX4_dearest 79 = .ok (.ifCond .le 7, 3) := by decide +kernel
theorem dX4_dearest_82 : decode cX4_dearest 82 = .ok (.iload_n 3, 1) := by decide +kernel
theorem dX4_dearest_83 : decode cX4_dearest 83 = .ok (.goto 4, 3) := by decide +kernel
theorem dX4_dearest_86 : decode cX4_dearest 86 = .ok (.iload_n 2, 1) := by decide +kernel
theorem dX4_dearest_87 : decode cX4_dearest 87 = .ok (.istore_n 2, 1) := by decide +kernel
theorem dX4_dearest_88 : decode cX4_dearest 88 = .ok (.iinc 3 1, 3) := by decide +kernel
theorem dX4_dearest_91 : decode cX4_dearest 91 = .ok (.goto (-67), 3) := by decide +kernel
theorem dX4_dearest_94 : decode cX4_dearest 94 = .ok (.iload_n 2, 1) := by decide +kernel
theorem dX4_dearest_95 : decode cX4_dearest 95 = .ok (.ireturn, 1) := by decide +kernel
set_option maxRecDepth 20000 in
theorem ggX4_done_X4_isItem : GoodIn wsX4_done wsX4_isItem := goodIn_r _ [6, 7, 8, 9, 5, 10, 21, 22, 23, 24, 25, 26, 27, 28, 29, 30, 31, 32, 33, 34, 35, 36, 37, 38, 39, 40, 41, 42, 43, 44, 45, 46] (by decide +kernel) (by decide +kernel)
set_option maxRecDepth 20000 in
theorem gX4_done_X4_isItem : GoodIn wsX4_done (wsV RX4 121 RX4 yX4_isItem wsX4_isItem) := goodIn_app (goodIn_of _ (by decide +kernel)) ggX4_done_X4_isItem
set_option maxRecDepth 20000 in
theorem ggX4_done_X4_in : GoodIn wsX4_done wsX4_in := goodIn_r _ [10] (by decide +kernel) (by decide +kernel)
set_option maxRecDepth 20000 in
theorem gX4_done_X4_in : GoodIn wsX4_done (va_wsS RX4 58 yX4_in wsX4_in) := goodIn_app (goodIn_of _ (by decide +kernel)) ggX4_done_X4_in
set_option maxRecDepth 20000 in
theorem ggX4_done_X4_isHeading : GoodIn wsX4_done wsX4_isHeading := goodIn_r _ [14, 15, 21, 22, 23, 24, 25, 26, 27, 28, 29, 30, 31, 32, 33, 34, 35, 36, 37, 38, 39, 40, 41, 42, 43, 44, 45, 46] (by decide +kernel) (by decide +kernel)
set_option maxRecDepth 20000 in
theorem gX4_done_X4_isHeading : GoodIn wsX4_done (wsV RX4 118 RX4 yX4_isHeading wsX4_isHeading) := goodIn_app (goodIn_of _ (by decide +kernel)) ggX4_done_X4_isHeading
set_option maxRecDepth 20000 in
theorem ggX4_done_X4_goes : GoodIn wsX4_done wsX4_goes := goodIn_r _ [19, 20, 21, 22, 23, 24, 25, 26, 27, 28, 29, 30, 31, 32, 33, 34, 35, 36, 37, 38, 39, 40, 41, 42, 43, 44, 45, 46] (by decide +kernel) (by decide +kernel)
set_option maxRecDepth 20000 in
theorem gX4_done_X4_goes : GoodIn wsX4_done (wsV RX4 65 RX4 yX4_goes wsX4_goes) := goodIn_app (goodIn_of _ (by decide +kernel)) ggX4_done_X4_goes
theorem dX4_done_0 : decode cX4_done 0 = .ok (.aload_n 0, 1) := by decide +kernel
theorem dX4_done_1 : decode cX4_done 1 = .ok (.iload_n 1, 1) := by decide +kernel
theorem dX4_done_2 : decode cX4_done 2 = .ok (.invokevirtual 121, 3) := by decide +kernel
theorem dX4_done_5 : decode cX4_done 5 = .ok (.istore_n 3, 1) := by decide +kernel
theorem dX4_done_6 : decode cX4_done 6 = .ok (.aload_n 0, 1) := by decide +kernel
theorem dX4_done_7 : decode cX4_done 7 = .ok (.iload_n 3, 1) := by decide +kernel
theorem dX4_done_8 : decode cX4_done 8 = .ok (.iload_n 2, 1) := by decide +kernel
theorem dX4_done_9 : decode cX4_done 9 = .ok (.iconst 0, 1) := by decide +kernel
theorem dX4_done_10 : decode cX4_done 10 = .ok (.bipush 100, 2) := by decide +kernel
theorem dX4_done_12 : decode cX4_done 12 = .ok (.invokestatic 58, 3) := by decide +kernel
theorem dX4_done_15 : decode cX4_done 15 = .ok (.iload_n 3, 1) := by decide +kernel
theorem dX4_done_16 : decode cX4_done 16 = .ok (.ifCond .eq 15, 3) := by decide +kernel
theorem dX4_done_19 : decode cX4_done 19 = .ok (.aload_n 0, 1) := by decide +kernel
theorem dX4_done_20 : decode cX4_done 20 = .ok (.iload_n 1, 1) := by decide +kernel
theorem dX4_done_21 : decode cX4_done 21 = .ok (.invokevirtual 118, 3) := by decide +kernel
theorem dX4_done_24 : decode cX4_done 24 = .ok (.ifCond .ne 7, 3) := by decide +kernel
theorem dX4_done_27 : decode cX4_done 27 = .ok (.iconst 1, 1) := by decide +kernel
theorem dX4_done_28 : decode cX4_done 28 = .ok (.goto 4, 3) := by decide +kernel
theorem dX4_done_31 : decode cX4_done 31 = .ok (.iconst 0, 1) := by decide +kernel
theorem dX4_done_32 : decode cX4_done 32 = .ok (.invokevirtual 65, 3) := by decide +kernel
theorem dX4_done_35 : decode cX4_done 35 = .ok (.ifCond .ne 5, 3) := by decide +kernel
theorem dX4_done_38 : decode cX4_done 38 = .ok (.iconst 0, 1) := by decide +kernel
theorem dX4_done_39 : decode cX4_done 39 = .ok (.ireturn, 1) := by decide +kernel
theorem dX4_done_40 : decode cX4_done 40 = .ok (.aload_n 0, 1) := by decide +kernel
theorem dX4_done_41 : decode cX4_done 41 = .ok (.getfield 42, 3) := by decide +kernel
theorem dX4_done_44 : decode cX4_done 44 = .ok (.iload_n 1, 1) := by decide +kernel
theorem dX4_done_45 : decode cX4_done 45 = .ok (.iaload, 1) := by decide +kernel
theorem dX4_done_46 : decode cX4_done 46 = .ok (.istore 4, 2) := by decide +kernel
theorem dX4_done_48 : decode cX4_done 48 = .ok (.aload_n 0, 1) := by decide +kernel
theorem dX4_done_49 : decode cX4_done 49 = .ok (.getfield 42, 3) := by decide +kernel
theorem dX4_done_52 : decode cX4_done 52 = .ok (.iload_n 1, 1) := by decide +kernel
theorem dX4_done_53 : decode cX4_done 53 = .ok (.iload_n 2, 1) := by decide +kernel
theorem dX4_done_54 : decode cX4_done 54 = .ok (.iastore, 1) := by decide +kernel
theorem dX4_done_55 : decode cX4_done 55 = .ok (.iload 4, 2) := by decide +kernel
theorem dX4_done_57 : decode cX4_done 57 = .ok (.ireturn, 1) := by decide +kernel
set_option maxRecDepth 20000 in
theorem ggX4_retention_X4_in : GoodIn wsX4_retention wsX4_in := goodIn_r _ [5] (by decide +kernel) (by decide +kernel)
set_option maxRecDepth 20000 in
theorem gX4_retention_X4_in : GoodIn wsX4_retention (va_wsS RX4 58 yX4_in wsX4_in) := goodIn_app (goodIn_of _ (by decide +kernel)) ggX4_retention_X4_in
set_option maxRecDepth 20000 in
theorem ggX4_retention_X4_goes : GoodIn wsX4_retention wsX4_goes := goodIn_r _ [9, 10, 11, 12, 13, 14, 15, 16, 17, 18, 19, 20, 21, 22, 23, 24, 25, 26, 27, 28, 29, 30, 31, 32, 33, 34, 35, 36] (by decide +kernel) (by decide +kernel)
set_option maxRecDepth 20000 in
theorem gX4_retention_X4_goes : GoodIn wsX4_retention (wsV RX4 65 RX4 yX4_goes wsX4_goes) := goodIn_app (goodIn_of _ (by decide +kernel)) ggX4_retention_X4_goes
theorem dX4_retention_0 : decode cX4_retention 0 = .ok (.aload_n 0, 1) := by decide +kernel
theorem dX4_retention_1 : decode cX4_retention 1 = .ok (.iload_n 1, 1) := by decide +kernel
theorem dX4_retention_2 : decode cX4_retention 2 = .ok (.iconst 0, 1) := by decide +kernel
theorem dX4_retention_3 : decode cX4_retention 3 = .ok (.bipush 20, 2) := by decide +kernel
theorem dX4_retention_5 : decode cX4_retention 5 = .ok (.invokestatic 58, 3) := by decide +kernel
theorem dX4_retention_8 : decode cX4_retention 8 = .ok (.iconst 1, 1) := by decide +kernel
theorem dX4_retention_9 : decode cX4_retention 9 = .ok (.iconst 1, 1) := by decide +kernel
theorem dX4_retention_10 : decode cX4_retention 10 = .ok (.invokevirtual 65, 3) := by decide +kernel
theorem dX4_retention_13 : decode cX4_retention 13 = .ok (.ifCond .ne 5, 3) := by decide +kernel
theorem dX4_retention_16 : decode cX4_retention 16 = .ok (.iconst 0, 1) := by decide +kernel
theorem dX4_retention_17 : decode cX4_retention 17 = .ok (.ireturn, 1) := by decide +kernel
theorem dX4_retention_18 : decode cX4_retention 18 = .ok (.aload_n 0, 1) := by decide +kernel
theorem dX4_retention_19 : decode cX4_retention 19 = .ok (.getfield 49, 3) := by decide +kernel
theorem dX4_retention_22 : decode cX4_retention 22 = .ok (.istore_n 2, 1) := by decide +kernel
theorem dX4_retention_23 : decode cX4_retention 23 = .ok (.aload_n 0, 1) := by decide +kernel
theorem dX4_retention_24 : decode cX4_retention 24 = .ok (.iload_n 1, 1) := by decide +kernel
theorem dX4_retention_25 : decode cX4_retention 25 = .ok (.putfield 49, 3) := by decide +kernel
theorem dX4_retention_28 : decode cX4_retention 28 = .ok (.iload_n 2, 1) := by decide +kernel
theorem dX4_retention_29 : decode cX4_retention 29 = .ok (.ireturn, 1) := by decide +kernel
set_option maxRecDepth 20000 in
theorem ggX4_worthNow_X4_fills : GoodIn wsX4_worthNow wsX4_fills := goodIn_r _ [9, 1, 2, 10, 11, 12, 13, 14, 15, 8, 16, 17, 18, 19, 20, 21, 22, 23, 4, 24, 25, 26, 27, 28, 29, 30, 31, 32, 33, 34, 35, 36, 37, 38, 39, 40, 41, 42, 43, 44, 45, 46, 47, 48, 49, 50, 51, 52, 53, 54, 55] (by decide +kernel) (by decide +kernel)
set_option maxRecDepth 20000 in
theorem gX4_worthNow_X4_fills : GoodIn wsX4_worthNow (wsV RX4 138 RX4 yX4_fills wsX4_fills) := goodIn_app (goodIn_of _ (by decide +kernel)) ggX4_worthNow_X4_fills
set_option maxRecDepth 20000 in
theorem ggX4_worthNow_X4_isHeading : GoodIn wsX4_worthNow wsX4_isHeading := goodIn_r _ [16, 11, 30, 31, 32, 33, 34, 35, 36, 37, 38, 39, 40, 41, 42, 43, 44, 45, 46, 47, 48, 49, 50, 51, 52, 53, 54, 55] (by decide +kernel) (by decide +kernel)
set_option maxRecDepth 20000 in
theorem gX4_worthNow_X4_isHeading : GoodIn wsX4_worthNow (wsV RX4 118 RX4 yX4_isHeading wsX4_isHeading) := goodIn_app (goodIn_of _ (by decide +kernel)) ggX4_worthNow_X4_isHeading
theorem dX4_worthNow_0 : decode cX4_worthNow 0 = .ok (.aload_n 0, 1) := by decide +kernel
theorem dX4_worthNow_1 : decode cX4_worthNow 1 = .ok (.invokevirtual 138, 3) := by decide +kernel
theorem dX4_worthNow_4 : decode cX4_worthNow 4 = .ok (.lconst 0, 1) := by decide +kernel
theorem dX4_worthNow_5 : decode cX4_worthNow 5 = .ok (.lstore_n 1, 1) := by decide +kernel
theorem dX4_worthNow_6 : decode cX4_worthNow 6 = .ok (.iconst 0, 1) := by decide +kernel
theorem dX4_worthNow_7 : decode cX4_worthNow 7 = .ok (.istore_n 3, 1) := by decide +kernel
theorem dX4_worthNow_8 : decode cX4_worthNow 8 = .ok (.iload_n 3, 1) := by decide +kernel
theorem dX4_worthNow_9 : decode cX4_worthNow 9 = .ok (.aload_n 0, 1) := by decide +kernel
theorem dX4_worthNow_10 : decode cX4_worthNow 10 = .ok (.getfield 55, 3) := by decide +kernel
theorem dX4_worthNow_13 : decode cX4_worthNow 13 = .ok (.if_icmp .ge 42, 3) := by decide +kernel
theorem dX4_worthNow_16 : decode cX4_worthNow 16 = .ok (.lload_n 1, 1) := by decide +kernel
theorem dX4_worthNow_17 : decode cX4_worthNow 17 = .ok (.aload_n 0, 1) := by decide +kernel
theorem dX4_worthNow_18 : decode cX4_worthNow 18 = .ok (.iload_n 3, 1) := by decide +kernel
theorem dX4_worthNow_19 : decode cX4_worthNow 19 = .ok (.invokevirtual 118, 3) := by decide +kernel
theorem dX4_worthNow_22 : decode cX4_worthNow 22 = .ok (.ifCond .eq 7, 3) := by decide +kernel
theorem dX4_worthNow_25 : decode cX4_worthNow 25 = .ok (.lconst 0, 1) := by decide +kernel
theorem dX4_worthNow_26 : decode cX4_worthNow 26 = .ok (.goto 21, 3) := by decide +kernel
theorem dX4_worthNow_29 : decode cX4_worthNow 29 = .ok (.aload_n 0, 1) := by decide +kernel
theorem dX4_worthNow_30 : decode cX4_worthNow 30 = .ok (.getfield 45, 3) := by decide +kernel
theorem dX4_worthNow_33 : decode cX4_worthNow 33 = .ok (.iload_n 3, 1) := by decide +kernel
theorem dX4_worthNow_34 : decode cX4_worthNow 34 = .ok (.laload, 1) := by decide +kernel
theorem dX4_worthNow_35 : decode cX4_worthNow 35 = .ok (.aload_n 0, 1) := by decide +kernel
theorem dX4_worthNow_36 : decode cX4_worthNow 36 = .ok (.getfield 42, 3) := by decide +kernel
theorem dX4_worthNow_39 : decode cX4_worthNow 39 = .ok (.iload_n 3, 1) := by decide +kernel
theorem dX4_worthNow_40 : decode cX4_worthNow 40 = .ok (.iaload, 1) := by decide +kernel
theorem dX4_worthNow_41 : decode cX4_worthNow 41 = .ok (.i2l, 1) := by decide +kernel
theorem dX4_worthNow_42 : decode cX4_worthNow 42 = .ok (.lmul, 1) := by decide +kernel
theorem dX4_worthNow_43 : decode cX4_worthNow 43 = .ok (.ldc2_w 133, 3) := by decide +kernel
theorem dX4_worthNow_46 : decode cX4_worthNow 46 = .ok (.ldiv, 1) := by decide +kernel
theorem dX4_worthNow_47 : decode cX4_worthNow 47 = .ok (.ladd, 1) := by decide +kernel
theorem dX4_worthNow_48 : decode cX4_worthNow 48 = .ok (.lstore_n 1, 1) := by decide +kernel
theorem dX4_worthNow_49 : decode cX4_worthNow 49 = .ok (.iinc 3 1, 3) := by decide +kernel
theorem dX4_worthNow_52 : decode cX4_worthNow 52 = .ok (.goto (-44), 3) := by decide +kernel
theorem dX4_worthNow_55 : decode cX4_worthNow 55 = .ok (.lload_n 1, 1) := by decide +kernel
theorem dX4_worthNow_56 : decode cX4_worthNow 56 = .ok (.lreturn, 1) := by decide +kernel
set_option maxRecDepth 20000 in
theorem ggX4_dueNow_X4_worthNow : GoodIn wsX4_dueNow wsX4_worthNow := goodIn_r _ [8, 9, 10, 11, 3, 12, 13, 14, 7, 15, 16, 17, 18, 19, 20, 21, 22, 23, 24, 25, 26, 27, 28, 2, 29, 30, 31, 32, 33, 34, 35, 36, 37, 38, 39, 40, 41, 42, 43, 44, 45, 46, 47, 48, 49, 50, 51, 52, 53, 54, 55, 56, 57, 58, 59, 60] (by decide +kernel) (by decide +kernel)
set_option maxRecDepth 20000 in
theorem gX4_dueNow_X4_worthNow : GoodIn wsX4_dueNow (wsV RX4 145 RX4 yX4_worthNow wsX4_worthNow) := goodIn_app (goodIn_of _ (by decide +kernel)) ggX4_dueNow_X4_worthNow
theorem dX4_dueNow_0 : decode cX4_dueNow 0 = .ok (.aload_n 0, 1) := by decide +kernel
theorem dX4_dueNow_1 : decode cX4_dueNow 1 = .ok (.invokevirtual 145, 3) := by decide +kernel
theorem dX4_dueNow_4 : decode cX4_dueNow 4 = .ok (.lstore_n 1, 1) := by decide +kernel
theorem dX4_dueNow_5 : decode cX4_dueNow 5 = .ok (.lload_n 1, 1) := by decide +kernel
theorem dX4_dueNow_6 : decode cX4_dueNow 6 = .ok (.lload_n 1, 1) := by decide +kernel
theorem dX4_dueNow_7 : decode cX4_dueNow 7 = .ok (.aload_n 0, 1) := by decide +kernel
theorem dX4_dueNow_8 : decode cX4_dueNow 8 = .ok (.getfield 49, 3) := by decide +kernel
theorem dX4_dueNow_11 : decode cX4_dueNow 11 = .ok (.i2l, 1) := by decide +kernel
theorem dX4_dueNow_12 : decode cX4_dueNow 12 = .ok (.lmul, 1) := by decide +kernel
theorem dX4_dueNow_13 : decode cX4_dueNow 13 = .ok (.ldc2_w 131, 3) := by decide +kernel
theorem dX4_dueNow_16 : decode cX4_dueNow 16 = .ok (.ladd, 1) := by decide +kernel
theorem dX4_dueNow_17 : decode cX4_dueNow 17 = .ok (.ldc2_w 133, 3) := by decide +kernel
theorem dX4_dueNow_20 : decode cX4_dueNow 20 = .ok (.ldiv, 1) := by decide +kernel
theorem dX4_dueNow_21 : decode cX4_dueNow 21 = .ok (.lsub, 1) := by decide +kernel
theorem dX4_dueNow_22 : decode cX4_dueNow 22 = .ok (.lreturn, 1) := by decide +kernel
set_option maxRecDepth 20000 in
theorem ggX4_worth_X4_worthNow : GoodIn wsX4_worth wsX4_worthNow := goodIn_r _ [6, 7, 8, 9, 10, 11, 12, 13, 5, 14, 15, 16, 17, 18, 19, 20, 21, 22, 23, 24, 25, 26, 27, 28, 29, 30, 31, 32, 33, 34, 35, 36, 37, 38, 39, 40, 41, 42, 43, 44, 45, 46, 47, 48, 49, 50, 51, 52, 53, 54, 55, 56, 57, 58, 59, 60] (by decide +kernel) (by decide +kernel)
set_option maxRecDepth 20000 in
theorem gX4_worth_X4_worthNow : GoodIn wsX4_worth (wsV RX4 145 RX4 yX4_worthNow wsX4_worthNow) := goodIn_app (goodIn_of _ (by decide +kernel)) ggX4_worth_X4_worthNow
theorem dX4_worth_0 : decode cX4_worth 0 = .ok (.aload_n 0, 1) := by decide +kernel
theorem dX4_worth_1 : decode cX4_worth 1 = .ok (.iconst 0, 1) := by decide +kernel
theorem dX4_worth_2 : decode cX4_worth 2 = .ok (.putfield 52, 3) := by decide +kernel
theorem dX4_worth_5 : decode cX4_worth 5 = .ok (.aload_n 0, 1) := by decide +kernel
theorem dX4_worth_6 : decode cX4_worth 6 = .ok (.invokevirtual 145, 3) := by decide +kernel
theorem dX4_worth_9 : decode cX4_worth 9 = .ok (.lreturn, 1) := by decide +kernel
set_option maxRecDepth 20000 in
theorem ggX4_due_X4_dueNow : GoodIn wsX4_due wsX4_dueNow := goodIn_r _ [6, 7, 8, 9, 10, 11, 12, 5, 13, 14, 15, 16, 17, 18, 19, 20, 21, 22, 23, 24, 25, 26, 27, 28, 29, 30, 31, 32, 33, 34, 35, 36, 37, 38, 39, 40, 41, 42, 43, 44, 45, 46, 47, 48, 49, 50, 51, 52, 53, 54, 55, 56, 57, 58, 59, 60, 61, 62, 63, 64, 65] (by decide +kernel) (by decide +kernel)
set_option maxRecDepth 20000 in
theorem gX4_due_X4_dueNow : GoodIn wsX4_due (wsV RX4 149 RX4 yX4_dueNow wsX4_dueNow) := goodIn_app (goodIn_of _ (by decide +kernel)) ggX4_due_X4_dueNow
theorem dX4_due_0 : decode cX4_due 0 = .ok (.aload_n 0, 1) := by decide +kernel
theorem dX4_due_1 : decode cX4_due 1 = .ok (.iconst 0, 1) := by decide +kernel
theorem dX4_due_2 : decode cX4_due 2 = .ok (.putfield 52, 3) := by decide +kernel
theorem dX4_due_5 : decode cX4_due 5 = .ok (.aload_n 0, 1) := by decide +kernel
theorem dX4_due_6 : decode cX4_due 6 = .ok (.invokevirtual 149, 3) := by decide +kernel
theorem dX4_due_9 : decode cX4_due 9 = .ok (.lreturn, 1) := by decide +kernel
set_option maxRecDepth 20000 in
theorem ggX4_claim_X4_dueNow : GoodIn wsX4_claim wsX4_dueNow := goodIn_r _ [6, 7, 8, 9, 10, 11, 12, 5, 13, 14, 15, 16, 17, 18, 19, 20, 21, 22, 23, 24, 25, 26, 27, 28, 29, 30, 31, 32, 33, 34, 35, 36, 37, 38, 39, 45, 46, 47, 48, 49, 50, 51, 52, 53, 54, 55, 56, 57, 58, 59, 60, 61, 62, 63, 64, 65, 66, 67, 68, 69, 70] (by decide +kernel) (by decide +kernel)
set_option maxRecDepth 20000 in
theorem gX4_claim_X4_dueNow : GoodIn wsX4_claim (wsV RX4 149 RX4 yX4_dueNow wsX4_dueNow) := goodIn_app (goodIn_of _ (by decide +kernel)) ggX4_claim_X4_dueNow
set_option maxRecDepth 20000 in
theorem ggX4_claim_X4_goes : GoodIn wsX4_claim wsX4_goes := goodIn_r _ [43, 44, 45, 46, 47, 48, 49, 50, 51, 52, 53, 54, 55, 56, 57, 58, 59, 60, 61, 62, 63, 64, 65, 66, 67, 68, 69, 70] (by decide +kernel) (by decide +kernel)
set_option maxRecDepth 20000 in
theorem gX4_claim_X4_goes : GoodIn wsX4_claim (wsV RX4 65 RX4 yX4_goes wsX4_goes) := goodIn_app (goodIn_of _ (by decide +kernel)) ggX4_claim_X4_goes
theorem dX4_claim_0 : decode cX4_claim 0 = .ok (.aload_n 0, 1) := by decide +kernel
theorem dX4_claim_1 : decode cX4_claim 1 = .ok (.invokevirtual 149, 3) := by decide +kernel
theorem dX4_claim_4 : decode cX4_claim 4 = .ok (.aload_n 0, 1) := by decide +kernel
theorem dX4_claim_5 : decode cX4_claim 5 = .ok (.getfield 152, 3) := by decide +kernel
theorem dX4_claim_8 : decode cX4_claim 8 = .ok (.lsub, 1) := by decide +kernel
theorem dX4_claim_9 : decode cX4_claim 9 = .ok (.lstore_n 1, 1) := by decide +kernel
theorem dX4_claim_10 : decode cX4_claim 10 = .ok (.aload_n 0, 1) := by decide +kernel
theorem dX4_claim_11 : decode cX4_claim 11 = .ok (.lload_n 1, 1) := by decide +kernel
theorem dX4_claim_12 : decode cX4_claim 12 = .ok (.lconst 0, 1) := by decide +kernel
theorem dX4_claim_13 : decode cX4_claim 13 = .ok (.lcmp, 1) := by decide +kernel
theorem dX4_claim_14 : decode cX4_claim 14 = .ok (.ifCond .le 7, 3) := by decide +kernel
theorem dX4_claim_17 : decode cX4_claim 17 = .ok (.iconst 1, 1) := by decide +kernel
theorem dX4_claim_18 : decode cX4_claim 18 = .ok (.goto 4, 3) := by decide +kernel
theorem dX4_claim_21 : decode cX4_claim 21 = .ok (.iconst 0, 1) := by decide +kernel
theorem dX4_claim_22 : decode cX4_claim 22 = .ok (.iconst 1, 1) := by decide +kernel
theorem dX4_claim_23 : decode cX4_claim 23 = .ok (.iconst 1, 1) := by decide +kernel
theorem dX4_claim_24 : decode cX4_claim 24 = .ok (.invokevirtual 65, 3) := by decide +kernel
theorem dX4_claim_27 : decode cX4_claim 27 = .ok (.ifCond .ne 5, 3) := by decide +kernel
theorem dX4_claim_30 : decode cX4_claim 30 = .ok (.lconst 0, 1) := by decide +kernel
theorem dX4_claim_31 : decode cX4_claim 31 = .ok (.lreturn, 1) := by decide +kernel
theorem dX4_claim_32 : decode cX4_claim 32 = .ok (.aload_n 0, 1) := by decide +kernel
theorem dX4_claim_33 : decode cX4_claim 33 = .ok (.dup, 1) := by decide +kernel
theorem dX4_claim_34 : decode cX4_claim 34 = .ok (.getfield 152, 3) := by decide +kernel
theorem dX4_claim_37 : decode cX4_claim 37 = .ok (.lload_n 1, 1) := by decide +kernel
theorem dX4_claim_38 : decode cX4_claim 38 = .ok (.ladd, 1) := by decide +kernel
theorem dX4_claim_39 : decode cX4_claim 39 = .ok (.putfield 152, 3) := by decide +kernel
theorem dX4_claim_42 : decode cX4_claim 42 = .ok (.lload_n 1, 1) := by decide +kernel
theorem dX4_claim_43 : decode cX4_claim 43 = .ok (.lreturn, 1) := by decide +kernel
theorem dX4_claimed_0 : decode cX4_claimed 0 = .ok (.aload_n 0, 1) := by decide +kernel
theorem dX4_claimed_1 : decode cX4_claimed 1 = .ok (.iconst 0, 1) := by decide +kernel
theorem dX4_claimed_2 : decode cX4_claimed 2 = .ok (.putfield 52, 3) := by decide +kernel
theorem dX4_claimed_5 : decode cX4_claimed 5 = .ok (.aload_n 0, 1) := by decide +kernel
theorem dX4_claimed_6 : decode cX4_claimed 6 = .ok (.getfield 152, 3) := by decide +kernel
theorem dX4_claimed_9 : decode cX4_claimed 9 = .ok (.lreturn, 1) := by decide +kernel
theorem dJ9_abs_0f7a4_0 : decode cJ9_abs_0f7a4 0 = .ok (.iload_n 0, 1) := by decide +kernel
theorem dJ9_abs_0f7a4_1 : decode cJ9_abs_0f7a4 1 = .ok (.ifCond .ge 8, 3) := by decide +kernel
theorem dJ9_abs_0f7a4_4 : decode cJ9_abs_0f7a4 4 = .ok (.iload_n 0, 1) := by decide +kernel
theorem dJ9_abs_0f7a4_5 : decode cJ9_abs_0f7a4 5 = .ok (.ineg, 1) := by decide +kernel
theorem dJ9_abs_0f7a4_6 : decode cJ9_abs_0f7a4 6 = .ok (.goto 4, 3) := by decide +kernel
theorem dJ9_abs_0f7a4_9 : decode cJ9_abs_0f7a4 9 = .ok (.iload_n 0, 1) := by decide +kernel
theorem dJ9_abs_0f7a4_10 : decode cJ9_abs_0f7a4 10 = .ok (.ireturn, 1) := by decide +kernel
theorem dJ9_max_7cf53_0 : decode cJ9_max_7cf53 0 = .ok (.iload_n 0, 1) := by decide +kernel
theorem dJ9_max_7cf53_1 : decode cJ9_max_7cf53 1 = .ok (.iload_n 1, 1) := by decide +kernel
theorem dJ9_max_7cf53_2 : decode cJ9_max_7cf53 2 = .ok (.if_icmp .lt 7, 3) := by decide +kernel
theorem dJ9_max_7cf53_5 : decode cJ9_max_7cf53 5 = .ok (.iload_n 0, 1) := by decide +kernel
theorem dJ9_max_7cf53_6 : decode cJ9_max_7cf53 6 = .ok (.goto 4, 3) := by decide +kernel
theorem dJ9_max_7cf53_9 : decode cJ9_max_7cf53 9 = .ok (.iload_n 1, 1) := by decide +kernel
theorem dJ9_max_7cf53_10 : decode cJ9_max_7cf53 10 = .ok (.ireturn, 1) := by decide +kernel
theorem dJ9_max_f86c9_0 : decode cJ9_max_f86c9 0 = .ok (.lload_n 0, 1) := by decide +kernel
theorem dJ9_max_f86c9_1 : decode cJ9_max_f86c9 1 = .ok (.lload_n 2, 1) := by decide +kernel
theorem dJ9_max_f86c9_2 : decode cJ9_max_f86c9 2 = .ok (.lcmp, 1) := by decide +kernel
theorem dJ9_max_f86c9_3 : decode cJ9_max_f86c9 3 = .ok (.ifCond .lt 7, 3) := by decide +kernel
theorem dJ9_max_f86c9_6 : decode cJ9_max_f86c9 6 = .ok (.lload_n 0, 1) := by decide +kernel
theorem dJ9_max_f86c9_7 : decode cJ9_max_f86c9 7 = .ok (.goto 4, 3) := by decide +kernel
theorem dJ9_max_f86c9_10 : decode cJ9_max_f86c9 10 = .ok (.lload_n 2, 1) := by decide +kernel
theorem dJ9_max_f86c9_11 : decode cJ9_max_f86c9 11 = .ok (.lreturn, 1) := by decide +kernel
theorem dJ9_min_7cf53_0 : decode cJ9_min_7cf53 0 = .ok (.iload_n 0, 1) := by decide +kernel
theorem dJ9_min_7cf53_1 : decode cJ9_min_7cf53 1 = .ok (.iload_n 1, 1) := by decide +kernel
theorem dJ9_min_7cf53_2 : decode cJ9_min_7cf53 2 = .ok (.if_icmp .gt 7, 3) := by decide +kernel
theorem dJ9_min_7cf53_5 : decode cJ9_min_7cf53 5 = .ok (.iload_n 0, 1) := by decide +kernel
theorem dJ9_min_7cf53_6 : decode cJ9_min_7cf53 6 = .ok (.goto 4, 3) := by decide +kernel
theorem dJ9_min_7cf53_9 : decode cJ9_min_7cf53 9 = .ok (.iload_n 1, 1) := by decide +kernel
theorem dJ9_min_7cf53_10 : decode cJ9_min_7cf53 10 = .ok (.ireturn, 1) := by decide +kernel
theorem dJxa1e45_init_da8c8_0 : decode cJxa1e45_init_da8c8 0 = .ok (.aload_n 0, 1) := by decide +kernel
theorem dJxa1e45_init_da8c8_1 : decode cJxa1e45_init_da8c8 1 = .ok (.invokespecial 1, 3) := by decide +kernel
theorem dJxa1e45_init_da8c8_4 : decode cJxa1e45_init_da8c8 4 = .ok (.return_, 1) := by decide +kernel
set_option maxRecDepth 20000 in
theorem ggJxc12de_init_da8c8_Jxa1e45_init_da8c8 : GoodIn wsJxc12de_init_da8c8 wsJxa1e45_init_da8c8 := goodIn_r _ [5, 6, 7, 8] (by decide +kernel) (by decide +kernel)
set_option maxRecDepth 20000 in
theorem gJxc12de_init_da8c8_Jxa1e45_init_da8c8 : GoodIn wsJxc12de_init_da8c8 (wsJxa1e45_init_da8c8) := ggJxc12de_init_da8c8_Jxa1e45_init_da8c8
theorem dJxc12de_init_da8c8_0 : decode cJxc12de_init_da8c8 0 = .ok (.aload_n 0, 1) := by decide +kernel
theorem dJxc12de_init_da8c8_1 : decode cJxc12de_init_da8c8 1 = .ok (.invokespecial 1, 3) := by decide +kernel
theorem dJxc12de_init_da8c8_4 : decode cJxc12de_init_da8c8 4 = .ok (.aload_n 0, 1) := by decide +kernel
theorem dJxc12de_init_da8c8_5 : decode cJxc12de_init_da8c8 5 = .ok (.iconst 0, 1) := by decide +kernel
theorem dJxc12de_init_da8c8_6 : decode cJxc12de_init_da8c8 6 = .ok (.putfield 7, 3) := by decide +kernel
theorem dJxc12de_init_da8c8_9 : decode cJxc12de_init_da8c8 9 = .ok (.return_, 1) := by decide +kernel
set_option maxRecDepth 20000 in
theorem ggJx4a65c_init_da8c8_Jxc12de_init_da8c8 : GoodIn wsJx4a65c_init_da8c8 wsJxc12de_init_da8c8 := goodIn_r _ [6, 7, 8, 9, 10, 11, 12, 13, 14, 15, 16, 17] (by decide +kernel) (by decide +kernel)
set_option maxRecDepth 20000 in
theorem gJx4a65c_init_da8c8_Jxc12de_init_da8c8 : GoodIn wsJx4a65c_init_da8c8 (wsJxc12de_init_da8c8) := ggJx4a65c_init_da8c8_Jxc12de_init_da8c8
theorem dJx4a65c_init_da8c8_0 : decode cJx4a65c_init_da8c8 0 = .ok (.aload_n 0, 1) := by decide +kernel
theorem dJx4a65c_init_da8c8_1 : decode cJx4a65c_init_da8c8 1 = .ok (.invokespecial 1, 3) := by decide +kernel
theorem dJx4a65c_init_da8c8_4 : decode cJx4a65c_init_da8c8 4 = .ok (.aload_n 0, 1) := by decide +kernel
theorem dJx4a65c_init_da8c8_5 : decode cJx4a65c_init_da8c8 5 = .ok (.getstatic 39, 3) := by decide +kernel
theorem dJx4a65c_init_da8c8_8 : decode cJx4a65c_init_da8c8 8 = .ok (.putfield 9, 3) := by decide +kernel
theorem dJx4a65c_init_da8c8_11 : decode cJx4a65c_init_da8c8 11 = .ok (.return_, 1) := by decide +kernel
set_option maxRecDepth 20000 in
theorem ggJx4a65c_grow_92f84_J8_newLength_cabcc : GoodIn wsJx4a65c_grow_92f84 wsJ8_newLength_cabcc := goodIn_r _ [11, 12, 4, 5, 6, 13, 14, 15, 10, 16] (by decide +kernel) (by decide +kernel)
set_option maxRecDepth 20000 in
theorem gJx4a65c_grow_92f84_J8_newLength_cabcc : GoodIn wsJx4a65c_grow_92f84 (va_wsS RJx4a65c 73 yJ8_newLength_cabcc wsJ8_newLength_cabcc) := goodIn_app (goodIn_of _ (by decide +kernel)) ggJx4a65c_grow_92f84_J8_newLength_cabcc
set_option maxRecDepth 20000 in
theorem ggJx4a65c_grow_92f84_J7_copyOf_1904c : GoodIn wsJx4a65c_grow_92f84 wsJ7_copyOf_1904c := goodIn_r _ [20, 21, 22, 23, 24, 25, 26, 19, 27, 28, 29, 30, 31, 5, 32, 33, 34, 35, 36] (by decide +kernel) (by decide +kernel)
set_option maxRecDepth 20000 in
theorem gJx4a65c_grow_92f84_J7_copyOf_1904c : GoodIn wsJx4a65c_grow_92f84 (va_wsS RJx4a65c 66 yJ7_copyOf_1904c wsJ7_copyOf_1904c) := goodIn_app (goodIn_of _ (by decide +kernel)) ggJx4a65c_grow_92f84_J7_copyOf_1904c
theorem dJx4a65c_grow_92f84_0 : decode cJx4a65c_grow_92f84 0 = .ok (.aload_n 0, 1) := by decide +kernel
theorem dJx4a65c_grow_92f84_1 : decode cJx4a65c_grow_92f84 1 = .ok (.getfield 9, 3) := by decide +kernel
theorem dJx4a65c_grow_92f84_4 : decode cJx4a65c_grow_92f84 4 = .ok (.arraylength, 1) := by decide +kernel
theorem dJx4a65c_grow_92f84_5 : decode cJx4a65c_grow_92f84 5 = .ok (.istore_n 2, 1) := by decide +kernel
theorem dJx4a65c_grow_92f84_6 : decode cJx4a65c_grow_92f84 6 = .ok (.iload_n 2, 1) := by decide +kernel
theorem dJx4a65c_grow_92f84_7 : decode cJx4a65c_grow_92f84 7 = .ok (.ifCond .gt 13, 3) := by decide +kernel
theorem dJx4a65c_grow_92f84_10 : decode cJx4a65c_grow_92f84 10 = .ok (.aload_n 0, 1) := by decide +kernel
theorem dJx4a65c_grow_92f84_11 : decode cJx4a65c_grow_92f84 11 = .ok (.getfield 9, 3) := by decide +kernel
theorem dJx4a65c_grow_92f84_14 : decode cJx4a65c_grow_92f84 14 = .ok (.getstatic 39, 3) := by decide +kernel
theorem dJx4a65c_grow_92f84_17 : decode cJx4a65c_grow_92f84 17 = .ok (.if_acmp .eq 28, 3) := by decide +kernel
theorem dJx4a65c_grow_92f84_20 : decode cJx4a65c_grow_92f84 20 = .ok (.iload_n 2, 1) := by decide +kernel
theorem dJx4a65c_grow_92f84_21 : decode cJx4a65c_grow_92f84 21 = .ok (.iload_n 1, 1) := by decide +kernel
theorem dJx4a65c_grow_92f84_22 : decode cJx4a65c_grow_92f84 22 = .ok (.iload_n 2, 1) := by decide +kernel
theorem dJx4a65c_grow_92f84_23 : decode cJx4a65c_grow_92f84 23 = .ok (.isub, 1) := by decide +kernel
theorem dJx4a65c_grow_92f84_24 : decode cJx4a65c_grow_92f84 24 = .ok (.iload_n 2, 1) := by decide +kernel
theorem dJx4a65c_grow_92f84_25 : decode cJx4a65c_grow_92f84 25 = .ok (.iconst 1, 1) := by decide +kernel
theorem dJx4a65c_grow_92f84_26 : decode cJx4a65c_grow_92f84 26 = .ok (.ishr, 1) := by decide +kernel
theorem dJx4a65c_grow_92f84_27 : decode cJx4a65c_grow_92f84 27 = .ok (.invokestatic 73, 3) := by decide +kernel
theorem dJx4a65c_grow_92f84_30 : decode cJx4a65c_grow_92f84 30 = .ok (.istore_n 3, 1) := by decide +kernel
theorem dJx4a65c_grow_92f84_31 : decode cJx4a65c_grow_92f84 31 = .ok (.aload_n 0, 1) := by decide +kernel
theorem dJx4a65c_grow_92f84_32 : decode cJx4a65c_grow_92f84 32 = .ok (.aload_n 0, 1) := by decide +kernel
theorem dJx4a65c_grow_92f84_33 : decode cJx4a65c_grow_92f84 33 = .ok (.getfield 9, 3) := by decide +kernel
theorem dJx4a65c_grow_92f84_36 : decode cJx4a65c_grow_92f84 36 = .ok (.iload_n 3, 1) := by decide +kernel
theorem dJx4a65c_grow_92f84_37 : decode cJx4a65c_grow_92f84 37 = .ok (.invokestatic 66, 3) := by decide +kernel
theorem dJx4a65c_grow_92f84_40 : decode cJx4a65c_grow_92f84 40 = .ok (.dup_x1, 1) := by decide +kernel
theorem dJx4a65c_grow_92f84_41 : decode cJx4a65c_grow_92f84 41 = .ok (.putfield 9, 3) := by decide +kernel
theorem dJx4a65c_grow_92f84_44 : decode cJx4a65c_grow_92f84 44 = .ok (.areturn, 1) := by decide +kernel
theorem dJx4a65c_grow_92f84_45 : decode cJx4a65c_grow_92f84 45 = .ok (.aload_n 0, 1) := by decide +kernel
theorem dJx4a65c_grow_92f84_46 : decode cJx4a65c_grow_92f84 46 = .ok (.bipush 10, 2) := by decide +kernel
theorem dJx4a65c_grow_92f84_48 : decode cJx4a65c_grow_92f84 48 = .ok (.iload_n 1, 1) := by decide +kernel
theorem dJx4a65c_grow_92f84_49 : decode cJx4a65c_grow_92f84 49 = .ok (.invokestatic 79, 3) := by decide +kernel
theorem dJx4a65c_grow_92f84_52 : decode cJx4a65c_grow_92f84 52 = .ok (.anewarray 7, 3) := by decide +kernel
theorem dJx4a65c_grow_92f84_55 : decode cJx4a65c_grow_92f84 55 = .ok (.dup_x1, 1) := by decide +kernel
theorem dJx4a65c_grow_92f84_56 : decode cJx4a65c_grow_92f84 56 = .ok (.putfield 9, 3) := by decide +kernel
theorem dJx4a65c_grow_92f84_59 : decode cJx4a65c_grow_92f84 59 = .ok (.areturn, 1) := by decide +kernel
set_option maxRecDepth 20000 in
theorem ggJx4a65c_grow_d5877_Jx4a65c_grow_92f84 : GoodIn wsJx4a65c_grow_d5877 wsJx4a65c_grow_92f84 := goodIn_r _ [6, 7, 8, 9, 10, 11, 12, 13, 14, 15, 16, 17, 18, 19, 20, 21, 22, 23, 24, 25, 26, 27, 28, 29, 30, 31, 32, 33, 34, 35, 36, 37, 38, 39, 40, 41, 42, 43, 44, 45] (by decide +kernel) (by decide +kernel)
set_option maxRecDepth 20000 in
theorem gJx4a65c_grow_d5877_Jx4a65c_grow_92f84 : GoodIn wsJx4a65c_grow_d5877 (wsV RJx4a65c 69 RJx4a65c yJx4a65c_grow_92f84 wsJx4a65c_grow_92f84) := goodIn_app (goodIn_of _ (by decide +kernel)) ggJx4a65c_grow_d5877_Jx4a65c_grow_92f84
theorem dJx4a65c_grow_d5877_0 : decode cJx4a65c_grow_d5877 0 = .ok (.aload_n 0, 1) := by decide +kernel
theorem dJx4a65c_grow_d5877_1 : decode cJx4a65c_grow_d5877 1 = .ok (.aload_n 0, 1) := by decide +kernel
theorem dJx4a65c_grow_d5877_2 : decode cJx4a65c_grow_d5877 2 = .ok (.getfield 48, 3) := by decide +kernel
theorem dJx4a65c_grow_d5877_5 : decode cJx4a65c_grow_d5877 5 = .ok (.iconst 1, 1) := by decide +kernel
theorem dJx4a65c_grow_d5877_6 : decode cJx4a65c_grow_d5877 6 = .ok (.iadd, 1) := by decide +kernel
theorem dJx4a65c_grow_d5877_7 : decode cJx4a65c_grow_d5877 7 = .ok (.invokevirtual 69, 3) := by decide +kernel
theorem dJx4a65c_grow_d5877_10 : decode cJx4a65c_grow_d5877 10 = .ok (.areturn, 1) := by decide +kernel
theorem dJx4a65c_size_8abf5_0 : decode cJx4a65c_size_8abf5 0 = .ok (.aload_n 0, 1) := by decide +kernel
theorem dJx4a65c_size_8abf5_1 : decode cJx4a65c_size_8abf5 1 = .ok (.getfield 48, 3) := by decide +kernel
theorem dJx4a65c_size_8abf5_4 : decode cJx4a65c_size_8abf5 4 = .ok (.ireturn, 1) := by decide +kernel
theorem dJx4a65c_elementData_915e3_0 : decode cJx4a65c_elementData_915e3 0 = .ok (.aload_n 0, 1) := by decide +kernel
theorem dJx4a65c_elementData_915e3_1 : decode cJx4a65c_elementData_915e3 1 = .ok (.getfield 9, 3) := by decide +kernel
theorem dJx4a65c_elementData_915e3_4 : decode cJx4a65c_elementData_915e3 4 = .ok (.iload_n 1, 1) := by decide +kernel
theorem dJx4a65c_elementData_915e3_5 : decode cJx4a65c_elementData_915e3 5 = .ok (.aaload, 1) := by decide +kernel
theorem dJx4a65c_elementData_915e3_6 : decode cJx4a65c_elementData_915e3 6 = .ok (.areturn, 1) := by decide +kernel
set_option maxRecDepth 20000 in
theorem ggJx4a65c_get_915e3_J15_checkIndex_7cf53 : GoodIn wsJx4a65c_get_915e3 wsJ15_checkIndex_7cf53 := goodIn_r _ [5, 6, 7, 8, 9] (by decide +kernel) (by decide +kernel)
set_option maxRecDepth 20000 in
theorem gJx4a65c_get_915e3_J15_checkIndex_7cf53 : GoodIn wsJx4a65c_get_915e3 (va_wsS RJx4a65c 118 yJ15_checkIndex_7cf53 wsJ15_checkIndex_7cf53) := goodIn_app (goodIn_of _ (by decide +kernel)) ggJx4a65c_get_915e3_J15_checkIndex_7cf53
set_option maxRecDepth 20000 in
theorem ggJx4a65c_get_915e3_Jx4a65c_elementData_915e3 : GoodIn wsJx4a65c_get_915e3 wsJx4a65c_elementData_915e3 := goodIn_r _ [14, 15, 16, 17, 18] (by decide +kernel) (by decide +kernel)
set_option maxRecDepth 20000 in
theorem gJx4a65c_get_915e3_Jx4a65c_elementData_915e3 : GoodIn wsJx4a65c_get_915e3 (wsV RJx4a65c 123 RJx4a65c yJx4a65c_elementData_915e3 wsJx4a65c_elementData_915e3) := goodIn_app (goodIn_of _ (by decide +kernel)) ggJx4a65c_get_915e3_Jx4a65c_elementData_915e3
theorem dJx4a65c_get_915e3_0 : decode cJx4a65c_get_915e3 0 = .ok (.iload_n 1, 1) := by decide +kernel
theorem dJx4a65c_get_915e3_1 : decode cJx4a65c_get_915e3 1 = .ok (.aload_n 0, 1) := by decide +kernel
theorem dJx4a65c_get_915e3_2 : decode cJx4a65c_get_915e3 2 = .ok (.getfield 48, 3) := by decide +kernel
theorem dJx4a65c_get_915e3_5 : decode cJx4a65c_get_915e3 5 = .ok (.invokestatic 118, 3) := by decide +kernel
theorem dJx4a65c_get_915e3_8 : decode cJx4a65c_get_915e3 8 = .ok (.pop, 1) := by decide +kernel
theorem dJx4a65c_get_915e3_9 : decode cJx4a65c_get_915e3 9 = .ok (.aload_n 0, 1) := by decide +kernel
theorem dJx4a65c_get_915e3_10 : decode cJx4a65c_get_915e3 10 = .ok (.iload_n 1, 1) := by decide +kernel
theorem dJx4a65c_get_915e3_11 : decode cJx4a65c_get_915e3 11 = .ok (.invokevirtual 123, 3) := by decide +kernel
theorem dJx4a65c_get_915e3_14 : decode cJx4a65c_get_915e3 14 = .ok (.areturn, 1) := by decide +kernel
set_option maxRecDepth 20000 in
theorem ggJx4a65c_add_72be8_Jx4a65c_grow_d5877 : GoodIn wsJx4a65c_add_72be8 wsJx4a65c_grow_d5877 := goodIn_r _ [6, 1, 7, 8, 9, 5, 10, 11, 12, 13, 14, 15, 16, 17, 18, 19, 20, 21, 22, 23, 24, 25, 26, 27, 28, 29, 30, 31, 32, 33, 34, 35, 36, 37, 38, 39, 40, 41, 42, 43, 44, 45, 46, 47, 48, 49] (by decide +kernel) (by decide +kernel)
set_option maxRecDepth 20000 in
theorem gJx4a65c_add_72be8_Jx4a65c_grow_d5877 : GoodIn wsJx4a65c_add_72be8 (wsV RJx4a65c 129 RJx4a65c yJx4a65c_grow_d5877 wsJx4a65c_grow_d5877) := goodIn_app (goodIn_of _ (by decide +kernel)) ggJx4a65c_add_72be8_Jx4a65c_grow_d5877
theorem dJx4a65c_add_72be8_0 : decode cJx4a65c_add_72be8 0 = .ok (.iload_n 3, 1) := by decide +kernel
theorem dJx4a65c_add_72be8_1 : decode cJx4a65c_add_72be8 1 = .ok (.aload_n 2, 1) := by decide +kernel
theorem dJx4a65c_add_72be8_2 : decode cJx4a65c_add_72be8 2 = .ok (.arraylength, 1) := by decide +kernel
theorem dJx4a65c_add_72be8_3 : decode cJx4a65c_add_72be8 3 = .ok (.if_icmp .ne 8, 3) := by decide +kernel
theorem dJx4a65c_add_72be8_6 : decode cJx4a65c_add_72be8 6 = .ok (.aload_n 0, 1) := by decide +kernel
theorem dJx4a65c_add_72be8_7 : decode cJx4a65c_add_72be8 7 = .ok (.invokevirtual 129, 3) := by decide +kernel
theorem dJx4a65c_add_72be8_10 : decode cJx4a65c_add_72be8 10 = .ok (.astore_n 2, 1) := by decide +kernel
theorem dJx4a65c_add_72be8_11 : decode cJx4a65c_add_72be8 11 = .ok (.aload_n 2, 1) := by decide +kernel
theorem dJx4a65c_add_72be8_12 : decode cJx4a65c_add_72be8 12 = .ok (.iload_n 3, 1) := by decide +kernel
theorem dJx4a65c_add_72be8_13 : decode cJx4a65c_add_72be8 13 = .ok (.aload_n 1, 1) := by decide +kernel
theorem dJx4a65c_add_72be8_14 : decode cJx4a65c_add_72be8 14 = .ok (.aastore, 1) := by decide +kernel
theorem dJx4a65c_add_72be8_15 : decode cJx4a65c_add_72be8 15 = .ok (.aload_n 0, 1) := by decide +kernel
theorem dJx4a65c_add_72be8_16 : decode cJx4a65c_add_72be8 16 = .ok (.iload_n 3, 1) := by decide +kernel
theorem dJx4a65c_add_72be8_17 : decode cJx4a65c_add_72be8 17 = .ok (.iconst 1, 1) := by decide +kernel
theorem dJx4a65c_add_72be8_18 : decode cJx4a65c_add_72be8 18 = .ok (.iadd, 1) := by decide +kernel
theorem dJx4a65c_add_72be8_19 : decode cJx4a65c_add_72be8 19 = .ok (.putfield 48, 3) := by decide +kernel
theorem dJx4a65c_add_72be8_22 : decode cJx4a65c_add_72be8 22 = .ok (.return_, 1) := by decide +kernel
set_option maxRecDepth 20000 in
theorem ggJx4a65c_add_9ea2d_Jx4a65c_add_72be8 : GoodIn wsJx4a65c_add_9ea2d wsJx4a65c_add_72be8 := goodIn_r _ [9, 4, 10, 11, 12, 8, 13, 14, 15, 16, 17, 3, 18, 19, 20, 21, 22, 23, 24, 25, 26, 27, 28, 29, 30, 31, 32, 33, 34, 35, 36, 37, 38, 39, 40, 41, 42, 43, 44, 45, 46, 47, 48, 49, 50, 51, 52, 53, 54, 55] (by decide +kernel) (by decide +kernel)
set_option maxRecDepth 20000 in
theorem gJx4a65c_add_9ea2d_Jx4a65c_add_72be8 : GoodIn wsJx4a65c_add_9ea2d (wsV RJx4a65c 131 RJx4a65c yJx4a65c_add_72be8 wsJx4a65c_add_72be8) := goodIn_app (goodIn_of _ (by decide +kernel)) ggJx4a65c_add_9ea2d_Jx4a65c_add_72be8
theorem dJx4a65c_add_9ea2d_0 : decode cJx4a65c_add_9ea2d 0 = .ok (.aload_n 0, 1) := by decide +kernel
theorem dJx4a65c_add_9ea2d_1 : decode cJx4a65c_add_9ea2d 1 = .ok (.dup, 1) := by decide +kernel
theorem dJx4a65c_add_9ea2d_2 : decode cJx4a65c_add_9ea2d 2 = .ok (.getfield 63, 3) := by decide +kernel
theorem dJx4a65c_add_9ea2d_5 : decode cJx4a65c_add_9ea2d 5 = .ok (.iconst 1, 1) := by decide +kernel
theorem dJx4a65c_add_9ea2d_6 : decode cJx4a65c_add_9ea2d 6 = .ok (.iadd, 1) := by decide +kernel
theorem dJx4a65c_add_9ea2d_7 : decode cJx4a65c_add_9ea2d 7 = .ok (.putfield 63, 3) := by decide +kernel
theorem dJx4a65c_add_9ea2d_10 : decode cJx4a65c_add_9ea2d 10 = .ok (.aload_n 0, 1) := by decide +kernel
theorem dJx4a65c_add_9ea2d_11 : decode cJx4a65c_add_9ea2d 11 = .ok (.aload_n 1, 1) := by decide +kernel
theorem dJx4a65c_add_9ea2d_12 : decode cJx4a65c_add_9ea2d 12 = .ok (.aload_n 0, 1) := by decide +kernel
theorem dJx4a65c_add_9ea2d_13 : decode cJx4a65c_add_9ea2d 13 = .ok (.getfield 9, 3) := by decide +kernel
theorem dJx4a65c_add_9ea2d_16 : decode cJx4a65c_add_9ea2d 16 = .ok (.aload_n 0, 1) := by decide +kernel
theorem dJx4a65c_add_9ea2d_17 : decode cJx4a65c_add_9ea2d 17 = .ok (.getfield 48, 3) := by decide +kernel
theorem dJx4a65c_add_9ea2d_20 : decode cJx4a65c_add_9ea2d 20 = .ok (.invokevirtual 131, 3) := by decide +kernel
theorem dJx4a65c_add_9ea2d_23 : decode cJx4a65c_add_9ea2d 23 = .ok (.iconst 1, 1) := by decide +kernel
theorem dJx4a65c_add_9ea2d_24 : decode cJx4a65c_add_9ea2d 24 = .ok (.ireturn, 1) := by decide +kernel
theorem dJ7_fill_d0a16_0 : decode cJ7_fill_d0a16 0 = .ok (.iconst 0, 1) := by decide +kernel
theorem dJ7_fill_d0a16_1 : decode cJ7_fill_d0a16 1 = .ok (.istore_n 3, 1) := by decide +kernel
theorem dJ7_fill_d0a16_2 : decode cJ7_fill_d0a16 2 = .ok (.aload_n 0, 1) := by decide +kernel
theorem dJ7_fill_d0a16_3 : decode cJ7_fill_d0a16 3 = .ok (.arraylength, 1) := by decide +kernel
theorem dJ7_fill_d0a16_4 : decode cJ7_fill_d0a16 4 = .ok (.istore 4, 2) := by decide +kernel
theorem dJ7_fill_d0a16_6 : decode cJ7_fill_d0a16 6 = .ok (.iload_n 3, 1) := by decide +kernel
theorem dJ7_fill_d0a16_7 : decode cJ7_fill_d0a16 7 = .ok (.iload 4, 2) := by decide +kernel
theorem dJ7_fill_d0a16_9 : decode cJ7_fill_d0a16 9 = .ok (.if_icmp .ge 13, 3) := by decide +kernel
theorem dJ7_fill_d0a16_12 : decode cJ7_fill_d0a16 12 = .ok (.aload_n 0, 1) := by decide +kernel
theorem dJ7_fill_d0a16_13 : decode cJ7_fill_d0a16 13 = .ok (.iload_n 3, 1) := by decide +kernel
theorem dJ7_fill_d0a16_14 : decode cJ7_fill_d0a16 14 = .ok (.lload_n 1, 1) := by decide +kernel
theorem dJ7_fill_d0a16_15 : decode cJ7_fill_d0a16 15 = .ok (.lastore, 1) := by decide +kernel
theorem dJ7_fill_d0a16_16 : decode cJ7_fill_d0a16 16 = .ok (.iinc 3 1, 3) := by decide +kernel
theorem dJ7_fill_d0a16_19 : decode cJ7_fill_d0a16 19 = .ok (.goto (-13), 3) := by decide +kernel
theorem dJ7_fill_d0a16_22 : decode cJ7_fill_d0a16 22 = .ok (.return_, 1) := by decide +kernel
theorem dJ7_fill_53178_0 : decode cJ7_fill_53178 0 = .ok (.iconst 0, 1) := by decide +kernel
theorem dJ7_fill_53178_1 : decode cJ7_fill_53178 1 = .ok (.istore_n 2, 1) := by decide +kernel
theorem dJ7_fill_53178_2 : decode cJ7_fill_53178 2 = .ok (.aload_n 0, 1) := by decide +kernel
theorem dJ7_fill_53178_3 : decode cJ7_fill_53178 3 = .ok (.arraylength, 1) := by decide +kernel
theorem dJ7_fill_53178_4 : decode cJ7_fill_53178 4 = .ok (.istore_n 3, 1) := by decide +kernel
theorem dJ7_fill_53178_5 : decode cJ7_fill_53178 5 = .ok (.iload_n 2, 1) := by decide +kernel
theorem dJ7_fill_53178_6 : decode cJ7_fill_53178 6 = .ok (.iload_n 3, 1) := by decide +kernel
theorem dJ7_fill_53178_7 : decode cJ7_fill_53178 7 = .ok (.if_icmp .ge 13, 3) := by decide +kernel
theorem dJ7_fill_53178_10 : decode cJ7_fill_53178 10 = .ok (.aload_n 0, 1) := by decide +kernel
theorem dJ7_fill_53178_11 : decode cJ7_fill_53178 11 = .ok (.iload_n 2, 1) := by decide +kernel
theorem dJ7_fill_53178_12 : decode cJ7_fill_53178 12 = .ok (.iload_n 1, 1) := by decide +kernel
theorem dJ7_fill_53178_13 : decode cJ7_fill_53178 13 = .ok (.iastore, 1) := by decide +kernel
theorem dJ7_fill_53178_14 : decode cJ7_fill_53178 14 = .ok (.iinc 2 1, 3) := by decide +kernel
theorem dJ7_fill_53178_17 : decode cJ7_fill_53178 17 = .ok (.goto (-12), 3) := by decide +kernel
theorem dJ7_fill_53178_20 : decode cJ7_fill_53178 20 = .ok (.return_, 1) := by decide +kernel
set_option maxRecDepth 20000 in
theorem ggJ7_copyOf_1904c_J7_copyOf_6403c : GoodIn wsJ7_copyOf_1904c wsJ7_copyOf_6403c := goodIn_r _ [8, 9, 10, 11, 12, 13, 14, 15, 16, 17, 18] (by decide +kernel) (by decide +kernel)
set_option maxRecDepth 20000 in
theorem gJ7_copyOf_1904c_J7_copyOf_6403c : GoodIn wsJ7_copyOf_1904c (va_wsS RJ7 300 yJ7_copyOf_6403c wsJ7_copyOf_6403c) := goodIn_app (goodIn_of _ (by decide +kernel)) ggJ7_copyOf_1904c_J7_copyOf_6403c
theorem dJ7_copyOf_1904c_0 : decode cJ7_copyOf_1904c 0 = .ok (.aload_n 0, 1) := by decide +kernel
theorem dJ7_copyOf_1904c_1 : decode cJ7_copyOf_1904c 1 = .ok (.iload_n 1, 1) := by decide +kernel
theorem dJ7_copyOf_1904c_2 : decode cJ7_copyOf_1904c 2 = .ok (.aload_n 0, 1) := by decide +kernel
theorem dJ7_copyOf_1904c_3 : decode cJ7_copyOf_1904c 3 = .ok (.invokevirtual 86, 3) := by decide +kernel
theorem dJ7_copyOf_1904c_6 : decode cJ7_copyOf_1904c 6 = .ok (.invokestatic 300, 3) := by decide +kernel
theorem dJ7_copyOf_1904c_9 : decode cJ7_copyOf_1904c 9 = .ok (.areturn, 1) := by decide +kernel
theorem dJ7_copyOf_6403c_0 : decode cJ7_copyOf_6403c 0 = .ok (.aload_n 2, 1) := by decide +kernel
theorem dJ7_copyOf_6403c_1 : decode cJ7_copyOf_6403c 1 = .ok (.ldc 110, 2) := by decide +kernel
theorem dJ7_copyOf_6403c_3 : decode cJ7_copyOf_6403c 3 = .ok (.if_acmp .ne 10, 3) := by decide +kernel
theorem dJ7_copyOf_6403c_6 : decode cJ7_copyOf_6403c 6 = .ok (.iload_n 1, 1) := by decide +kernel
theorem dJ7_copyOf_6403c_7 : decode cJ7_copyOf_6403c 7 = .ok (.anewarray 2, 3) := by decide +kernel
theorem dJ7_copyOf_6403c_10 : decode cJ7_copyOf_6403c 10 = .ok (.goto 14, 3) := by decide +kernel
theorem dJ7_copyOf_6403c_13 : decode cJ7_copyOf_6403c 13 = .ok (.aload_n 2, 1) := by decide +kernel
theorem dJ7_copyOf_6403c_14 : decode cJ7_copyOf_6403c 14 = .ok (.invokevirtual 90, 3) := by decide +kernel
theorem dJ7_copyOf_6403c_17 : decode cJ7_copyOf_6403c 17 = .ok (.iload_n 1, 1) := by decide +kernel
theorem dJ7_copyOf_6403c_18 : decode cJ7_copyOf_6403c 18 = .ok (.invokestatic 95, 3) := by decide +kernel
theorem dJ7_copyOf_6403c_21 : decode cJ7_copyOf_6403c 21 = .ok (.checkcast 110, 3) := by decide +kernel
theorem dJ7_copyOf_6403c_24 : decode cJ7_copyOf_6403c 24 = .ok (.astore_n 3, 1) := by decide +kernel
theorem dJ7_copyOf_6403c_25 : decode cJ7_copyOf_6403c 25 = .ok (.aload_n 0, 1) := by decide +kernel
theorem dJ7_copyOf_6403c_26 : decode cJ7_copyOf_6403c 26 = .ok (.iconst 0, 1) := by decide +kernel
theorem dJ7_copyOf_6403c_27 : decode cJ7_copyOf_6403c 27 = .ok (.aload_n 3, 1) := by decide +kernel
theorem dJ7_copyOf_6403c_28 : decode cJ7_copyOf_6403c 28 = .ok (.iconst 0, 1) := by decide +kernel
theorem dJ7_copyOf_6403c_29 : decode cJ7_copyOf_6403c 29 = .ok (.aload_n 0, 1) := by decide +kernel
theorem dJ7_copyOf_6403c_30 : decode cJ7_copyOf_6403c 30 = .ok (.arraylength, 1) := by decide +kernel
theorem dJ7_copyOf_6403c_31 : decode cJ7_copyOf_6403c 31 = .ok (.iload_n 1, 1) := by decide +kernel
theorem dJ7_copyOf_6403c_32 : decode cJ7_copyOf_6403c 32 = .ok (.invokestatic 304, 3) := by decide +kernel
theorem dJ7_copyOf_6403c_35 : decode cJ7_copyOf_6403c 35 = .ok (.invokestatic 150, 3) := by decide +kernel
theorem dJ7_copyOf_6403c_38 : decode cJ7_copyOf_6403c 38 = .ok (.aload_n 3, 1) := by decide +kernel
theorem dJ7_copyOf_6403c_39 : decode cJ7_copyOf_6403c 39 = .ok (.areturn, 1) := by decide +kernel
set_option maxRecDepth 20000 in
theorem ggJ15_checkIndex_7cf53_J3_checkIndex_8e157 : GoodIn wsJ15_checkIndex_7cf53 wsJ3_checkIndex_8e157 := goodIn_r _ [4] (by decide +kernel) (by decide +kernel)
set_option maxRecDepth 20000 in
theorem gJ15_checkIndex_7cf53_J3_checkIndex_8e157 : GoodIn wsJ15_checkIndex_7cf53 (va_wsS RJ15 105 yJ3_checkIndex_8e157 wsJ3_checkIndex_8e157) := goodIn_app (goodIn_of _ (by decide +kernel)) ggJ15_checkIndex_7cf53_J3_checkIndex_8e157
theorem dJ15_checkIndex_7cf53_0 : decode cJ15_checkIndex_7cf53 0 = .ok (.iload_n 0, 1) := by decide +kernel
theorem dJ15_checkIndex_7cf53_1 : decode cJ15_checkIndex_7cf53 1 = .ok (.iload_n 1, 1) := by decide +kernel
theorem dJ15_checkIndex_7cf53_2 : decode cJ15_checkIndex_7cf53 2 = .ok (.aconst_null, 1) := by decide +kernel
theorem dJ15_checkIndex_7cf53_3 : decode cJ15_checkIndex_7cf53 3 = .ok (.invokestatic 105, 3) := by decide +kernel
theorem dJ15_checkIndex_7cf53_6 : decode cJ15_checkIndex_7cf53 6 = .ok (.ireturn, 1) := by decide +kernel
set_option maxRecDepth 20000 in
theorem ggJ8_newLength_cabcc_J8_hugeLength_7cf53 : GoodIn wsJ8_newLength_cabcc wsJ8_hugeLength_7cf53 := goodIn_r _ [9, 5] (by decide +kernel) (by decide +kernel)
set_option maxRecDepth 20000 in
theorem gJ8_newLength_cabcc_J8_hugeLength_7cf53 : GoodIn wsJ8_newLength_cabcc (va_wsS RJ8 201 yJ8_hugeLength_7cf53 wsJ8_hugeLength_7cf53) := goodIn_app (goodIn_of _ (by decide +kernel)) ggJ8_newLength_cabcc_J8_hugeLength_7cf53
theorem dJ8_newLength_cabcc_0 : decode cJ8_newLength_cabcc 0 = .ok (.iload_n 0, 1) := by decide +kernel
theorem dJ8_newLength_cabcc_1 : decode cJ8_newLength_cabcc 1 = .ok (.iload_n 1, 1) := by decide +kernel
theorem dJ8_newLength_cabcc_2 : decode cJ8_newLength_cabcc 2 = .ok (.iload_n 2, 1) := by decide +kernel
theorem dJ8_newLength_cabcc_3 : decode cJ8_newLength_cabcc 3 = .ok (.invokestatic 194, 3) := by decide +kernel
theorem dJ8_newLength_cabcc_6 : decode cJ8_newLength_cabcc 6 = .ok (.iadd, 1) := by decide +kernel
theorem dJ8_newLength_cabcc_7 : decode cJ8_newLength_cabcc 7 = .ok (.istore_n 3, 1) := by decide +kernel
theorem dJ8_newLength_cabcc_8 : decode cJ8_newLength_cabcc 8 = .ok (.iconst 0, 1) := by decide +kernel
theorem dJ8_newLength_cabcc_9 : decode cJ8_newLength_cabcc 9 = .ok (.iload_n 3, 1) := by decide +kernel
theorem dJ8_newLength_cabcc_10 : decode cJ8_newLength_cabcc 10 = .ok (.if_icmp .ge 11, 3) := by decide +kernel
theorem dJ8_newLength_cabcc_13 : decode cJ8_newLength_cabcc 13 = .ok (.iload_n 3, 1) := by decide +kernel
theorem dJ8_newLength_cabcc_14 : decode cJ8_newLength_cabcc 14 = .ok (.ldc 200, 2) := by decide +kernel
theorem dJ8_newLength_cabcc_16 : decode cJ8_newLength_cabcc 16 = .ok (.if_icmp .gt 5, 3) := by decide +kernel
theorem dJ8_newLength_cabcc_19 : decode cJ8_newLength_cabcc 19 = .ok (.iload_n 3, 1) := by decide +kernel
theorem dJ8_newLength_cabcc_20 : decode cJ8_newLength_cabcc 20 = .ok (.ireturn, 1) := by decide +kernel
theorem dJ8_newLength_cabcc_21 : decode cJ8_newLength_cabcc 21 = .ok (.iload_n 0, 1) := by decide +kernel
theorem dJ8_newLength_cabcc_22 : decode cJ8_newLength_cabcc 22 = .ok (.iload_n 1, 1) := by decide +kernel
theorem dJ8_newLength_cabcc_23 : decode cJ8_newLength_cabcc 23 = .ok (.invokestatic 201, 3) := by decide +kernel
theorem dJ8_newLength_cabcc_26 : decode cJ8_newLength_cabcc 26 = .ok (.ireturn, 1) := by decide +kernel
theorem dJ8_hugeLength_7cf53_0 : decode cJ8_hugeLength_7cf53 0 = .ok (.iload_n 0, 1) := by decide +kernel
theorem dJ8_hugeLength_7cf53_1 : decode cJ8_hugeLength_7cf53 1 = .ok (.iload_n 1, 1) := by decide +kernel
theorem dJ8_hugeLength_7cf53_2 : decode cJ8_hugeLength_7cf53 2 = .ok (.iadd, 1) := by decide +kernel
theorem dJ8_hugeLength_7cf53_3 : decode cJ8_hugeLength_7cf53 3 = .ok (.istore_n 2, 1) := by decide +kernel
theorem dJ8_hugeLength_7cf53_4 : decode cJ8_hugeLength_7cf53 4 = .ok (.iload_n 2, 1) := by decide +kernel
theorem dJ8_hugeLength_7cf53_5 : decode cJ8_hugeLength_7cf53 5 = .ok (.ifCond .ge 44, 3) := by decide +kernel
theorem dJ8_hugeLength_7cf53_8 : decode cJ8_hugeLength_7cf53 8 = .ok (.new 204, 3) := by decide +kernel
theorem dJ8_hugeLength_7cf53_11 : decode cJ8_hugeLength_7cf53 11 = .ok (.dup, 1) := by decide +kernel
theorem dJ8_hugeLength_7cf53_12 : decode cJ8_hugeLength_7cf53 12 = .ok (.new 89, 3) := by decide +kernel
theorem dJ8_hugeLength_7cf53_15 : decode cJ8_hugeLength_7cf53 15 = .ok (.dup, 1) := by decide +kernel
theorem dJ8_hugeLength_7cf53_16 : decode cJ8_hugeLength_7cf53 16 = .ok (.invokespecial 91, 3) := by decide +kernel
theorem dJ8_hugeLength_7cf53_19 : decode cJ8_hugeLength_7cf53 19 = .ok (.ldc 206, 2) := by decide +kernel
theorem dJ8_hugeLength_7cf53_21 : decode cJ8_hugeLength_7cf53 21 = .ok (.invokevirtual 94, 3) := by decide +kernel
theorem dJ8_hugeLength_7cf53_24 : decode cJ8_hugeLength_7cf53 24 = .ok (.iload_n 0, 1) := by decide +kernel
theorem dJ8_hugeLength_7cf53_25 : decode cJ8_hugeLength_7cf53 25 = .ok (.invokevirtual 98, 3) := by decide +kernel
theorem dJ8_hugeLength_7cf53_28 : decode cJ8_hugeLength_7cf53 28 = .ok (.ldc 208, 2) := by decide +kernel
theorem dJ8_hugeLength_7cf53_30 : decode cJ8_hugeLength_7cf53 30 = .ok (.invokevirtual 94, 3) := by decide +kernel
theorem dJ8_hugeLength_7cf53_33 : decode cJ8_hugeLength_7cf53 33 = .ok (.iload_n 1, 1) := by decide +kernel
theorem dJ8_hugeLength_7cf53_34 : decode cJ8_hugeLength_7cf53 34 = .ok (.invokevirtual 98, 3) := by decide +kernel
theorem dJ8_hugeLength_7cf53_37 : decode cJ8_hugeLength_7cf53 37 = .ok (.ldc 210, 2) := by decide +kernel
theorem dJ8_hugeLength_7cf53_39 : decode cJ8_hugeLength_7cf53 39 = .ok (.invokevirtual 94, 3) := by decide +kernel
theorem dJ8_hugeLength_7cf53_42 : decode cJ8_hugeLength_7cf53 42 = .ok (.invokevirtual 101, 3) := by decide +kernel
theorem dJ8_hugeLength_7cf53_45 : decode cJ8_hugeLength_7cf53 45 = .ok (.invokespecial 212, 3) := by decide +kernel
theorem dJ8_hugeLength_7cf53_48 : decode cJ8_hugeLength_7cf53 48 = .ok (.athrow, 1) := by decide +kernel
theorem dJ8_hugeLength_7cf53_49 : decode cJ8_hugeLength_7cf53 49 = .ok (.iload_n 2, 1) := by decide +kernel
theorem dJ8_hugeLength_7cf53_50 : decode cJ8_hugeLength_7cf53 50 = .ok (.ldc 200, 2) := by decide +kernel
theorem dJ8_hugeLength_7cf53_52 : decode cJ8_hugeLength_7cf53 52 = .ok (.if_icmp .gt 6, 3) := by decide +kernel
theorem dJ8_hugeLength_7cf53_55 : decode cJ8_hugeLength_7cf53 55 = .ok (.ldc 200, 2) := by decide +kernel
theorem dJ8_hugeLength_7cf53_57 : decode cJ8_hugeLength_7cf53 57 = .ok (.ireturn, 1) := by decide +kernel
theorem dJ8_hugeLength_7cf53_58 : decode cJ8_hugeLength_7cf53 58 = .ok (.iload_n 2, 1) := by decide +kernel
theorem dJ8_hugeLength_7cf53_59 : decode cJ8_hugeLength_7cf53 59 = .ok (.ireturn, 1) := by decide +kernel
theorem dJ3_checkIndex_8e157_0 : decode cJ3_checkIndex_8e157 0 = .ok (.iload_n 0, 1) := by decide +kernel
theorem dJ3_checkIndex_8e157_1 : decode cJ3_checkIndex_8e157 1 = .ok (.ifCond .lt 8, 3) := by decide +kernel
theorem dJ3_checkIndex_8e157_4 : decode cJ3_checkIndex_8e157 4 = .ok (.iload_n 0, 1) := by decide +kernel
theorem dJ3_checkIndex_8e157_5 : decode cJ3_checkIndex_8e157 5 = .ok (.iload_n 1, 1) := by decide +kernel
theorem dJ3_checkIndex_8e157_6 : decode cJ3_checkIndex_8e157 6 = .ok (.if_icmp .lt 10, 3) := by decide +kernel
theorem dJ3_checkIndex_8e157_9 : decode cJ3_checkIndex_8e157 9 = .ok (.aload_n 2, 1) := by decide +kernel
theorem dJ3_checkIndex_8e157_10 : decode cJ3_checkIndex_8e157 10 = .ok (.iload_n 0, 1) := by decide +kernel
theorem dJ3_checkIndex_8e157_11 : decode cJ3_checkIndex_8e157 11 = .ok (.iload_n 1, 1) := by decide +kernel
theorem dJ3_checkIndex_8e157_12 : decode cJ3_checkIndex_8e157 12 = .ok (.invokestatic 95, 3) := by decide +kernel
theorem dJ3_checkIndex_8e157_15 : decode cJ3_checkIndex_8e157 15 = .ok (.athrow, 1) := by decide +kernel
theorem dJ3_checkIndex_8e157_16 : decode cJ3_checkIndex_8e157 16 = .ok (.iload_n 0, 1) := by decide +kernel
theorem dJ3_checkIndex_8e157_17 : decode cJ3_checkIndex_8e157 17 = .ok (.ireturn, 1) := by decide +kernel
set_option maxRecDepth 20000 in
theorem ggL_begin_X3_begin : GoodIn wsL_begin wsX3_begin := goodIn_ca (goodIn_r _ [6, 7, 8, 9, 5, 10, 11, 12, 13, 14, 15, 16, 17, 18, 19, 20, 21, 22, 23, 24, 25, 26, 27, 28, 29, 30, 31, 32, 33, 34, 35, 36, 37, 38, 39, 40, 41, 42, 43, 44, 45, 46, 47, 48, 49, 50, 51, 52, 53, 54, 55, 56, 57, 58, 59, 60, 61] (by decide +kernel) (by decide +kernel)) (goodIn_sub (fun _ h => List.mem_cons_of_mem _ (List.mem_append_right _ h)) (by decide +kernel))
set_option maxRecDepth 20000 in
theorem gL_begin_X3_begin : GoodIn wsL_begin (wsV RL 7 RX3 yX3_begin wsX3_begin) := goodIn_app (goodIn_of _ (by decide +kernel)) ggL_begin_X3_begin
theorem dL_begin_0 : decode cL_begin 0 = .ok (.aload_n 0, 1) := by decide +kernel
theorem dL_begin_1 : decode cL_begin 1 = .ok (.iload_n 1, 1) := by decide +kernel
theorem dL_begin_2 : decode cL_begin 2 = .ok (.iload_n 2, 1) := by decide +kernel
theorem dL_begin_3 : decode cL_begin 3 = .ok (.invokevirtual 7, 3) := by decide +kernel
theorem dL_begin_6 : decode cL_begin 6 = .ok (.goto 6, 3) := by decide +kernel
theorem dL_begin_9 : decode cL_begin 9 = .ok (.astore_n 3, 1) := by decide +kernel
theorem dL_begin_10 : decode cL_begin 10 = .ok (.iconst 1, 1) := by decide +kernel
theorem dL_begin_11 : decode cL_begin 11 = .ok (.ireturn, 1) := by decide +kernel
theorem dL_begin_12 : decode cL_begin 12 = .ok (.iconst 0, 1) := by decide +kernel
theorem dL_begin_13 : decode cL_begin 13 = .ok (.ireturn, 1) := by decide +kernel
set_option maxRecDepth 20000 in
theorem ggL_wall_X3_wall : GoodIn wsL_wall wsX3_wall := goodIn_ca (goodIn_ca (goodIn_ca (goodIn_r _ [8, 9, 10, 11, 12, 13, 14, 15, 16, 17, 7, 18, 19, 20, 21, 22, 23, 24, 25, 26, 27, 28, 29, 30, 31, 32, 33, 34, 35, 36, 37, 38, 39, 40, 41, 42, 43, 44, 45, 46, 47, 48, 49, 50, 51, 52, 53, 54, 55, 56, 57, 58, 59, 60, 61, 62, 63, 64, 65, 66, 67, 68, 69, 70, 71, 72, 73, 74, 75, 76, 77, 78, 79, 80, 81, 82, 83, 84, 85, 86, 87] (by decide +kernel) (by decide +kernel)) (goodIn_sub (fun _ h => List.mem_cons_of_mem _ (List.mem_append_left _ (List.mem_append_left _ (List.mem_append_right _ h)))) (by decide +kernel))) (goodIn_sub (fun _ h => List.mem_cons_of_mem _ (List.mem_append_left _ (List.mem_append_right _ h))) (by decide +kernel))) (goodIn_sub (fun _ h => List.mem_cons_of_mem _ (List.mem_append_right _ h)) (by decide +kernel))
set_option maxRecDepth 20000 in
theorem gL_wall_X3_wall : GoodIn wsL_wall (wsV RL 15 RX3 yX3_wall wsX3_wall) := goodIn_app (goodIn_of _ (by decide +kernel)) ggL_wall_X3_wall
theorem dL_wall_0 : decode cL_wall 0 = .ok (.aload_n 3, 1) := by decide +kernel
theorem dL_wall_1 : decode cL_wall 1 = .ok (.iconst 0, 1) := by decide +kernel
theorem dL_wall_2 : decode cL_wall 2 = .ok (.aload_n 0, 1) := by decide +kernel
theorem dL_wall_3 : decode cL_wall 3 = .ok (.iload_n 1, 1) := by decide +kernel
theorem dL_wall_4 : decode cL_wall 4 = .ok (.iload_n 2, 1) := by decide +kernel
theorem dL_wall_5 : decode cL_wall 5 = .ok (.invokevirtual 15, 3) := by decide +kernel
theorem dL_wall_8 : decode cL_wall 8 = .ok (.ifCond .eq 7, 3) := by decide +kernel
theorem dL_wall_11 : decode cL_wall 11 = .ok (.lconst 1, 1) := by decide +kernel
theorem dL_wall_12 : decode cL_wall 12 = .ok (.goto 4, 3) := by decide +kernel
theorem dL_wall_15 : decode cL_wall 15 = .ok (.lconst 0, 1) := by decide +kernel
theorem dL_wall_16 : decode cL_wall 16 = .ok (.lastore, 1) := by decide +kernel
theorem dL_wall_17 : decode cL_wall 17 = .ok (.goto 15, 3) := by decide +kernel
theorem dL_wall_20 : decode cL_wall 20 = .ok (.astore 4, 2) := by decide +kernel
theorem dL_wall_22 : decode cL_wall 22 = .ok (.iconst 1, 1) := by decide +kernel
theorem dL_wall_23 : decode cL_wall 23 = .ok (.ireturn, 1) := by decide +kernel
theorem dL_wall_24 : decode cL_wall 24 = .ok (.astore 4, 2) := by decide +kernel
theorem dL_wall_26 : decode cL_wall 26 = .ok (.iconst 2, 1) := by decide +kernel
theorem dL_wall_27 : decode cL_wall 27 = .ok (.ireturn, 1) := by decide +kernel
theorem dL_wall_28 : decode cL_wall 28 = .ok (.astore 4, 2) := by decide +kernel
theorem dL_wall_30 : decode cL_wall 30 = .ok (.iconst 3, 1) := by decide +kernel
theorem dL_wall_31 : decode cL_wall 31 = .ok (.ireturn, 1) := by decide +kernel
theorem dL_wall_32 : decode cL_wall 32 = .ok (.iconst 0, 1) := by decide +kernel
theorem dL_wall_33 : decode cL_wall 33 = .ok (.ireturn, 1) := by decide +kernel
set_option maxRecDepth 20000 in
theorem ggL_opening_X3_opening : GoodIn wsL_opening wsX3_opening := goodIn_ca (goodIn_ca (goodIn_r _ [7, 8, 9, 10, 11, 12, 13, 6, 14, 15, 16, 17, 18, 19, 20, 21, 22, 23, 24, 25, 26, 27, 28, 29, 30, 31, 32, 33, 34, 35, 36, 37, 38, 39, 40, 41, 42, 43, 44, 45, 46, 47] (by decide +kernel) (by decide +kernel)) (goodIn_sub (fun _ h => List.mem_cons_of_mem _ (List.mem_append_left _ (List.mem_append_right _ h))) (by decide +kernel))) (goodIn_sub (fun _ h => List.mem_cons_of_mem _ (List.mem_append_right _ h)) (by decide +kernel))
set_option maxRecDepth 20000 in
theorem gL_opening_X3_opening : GoodIn wsL_opening (wsV RL 23 RX3 yX3_opening wsX3_opening) := goodIn_app (goodIn_of _ (by decide +kernel)) ggL_opening_X3_opening
theorem dL_opening_0 : decode cL_opening 0 = .ok (.aload_n 3, 1) := by decide +kernel
theorem dL_opening_1 : decode cL_opening 1 = .ok (.iconst 0, 1) := by decide +kernel
theorem dL_opening_2 : decode cL_opening 2 = .ok (.aload_n 0, 1) := by decide +kernel
theorem dL_opening_3 : decode cL_opening 3 = .ok (.iload_n 1, 1) := by decide +kernel
theorem dL_opening_4 : decode cL_opening 4 = .ok (.iload_n 2, 1) := by decide +kernel
theorem dL_opening_5 : decode cL_opening 5 = .ok (.invokevirtual 23, 3) := by decide +kernel
theorem dL_opening_8 : decode cL_opening 8 = .ok (.i2l, 1) := by decide +kernel
theorem dL_opening_9 : decode cL_opening 9 = .ok (.lastore, 1) := by decide +kernel
theorem dL_opening_10 : decode cL_opening 10 = .ok (.goto 11, 3) := by decide +kernel
theorem dL_opening_13 : decode cL_opening 13 = .ok (.astore 4, 2) := by decide +kernel
theorem dL_opening_15 : decode cL_opening 15 = .ok (.iconst 1, 1) := by decide +kernel
theorem dL_opening_16 : decode cL_opening 16 = .ok (.ireturn, 1) := by decide +kernel
theorem dL_opening_17 : decode cL_opening 17 = .ok (.astore 4, 2) := by decide +kernel
theorem dL_opening_19 : decode cL_opening 19 = .ok (.iconst 2, 1) := by decide +kernel
theorem dL_opening_20 : decode cL_opening 20 = .ok (.ireturn, 1) := by decide +kernel
theorem dL_opening_21 : decode cL_opening 21 = .ok (.iconst 0, 1) := by decide +kernel
theorem dL_opening_22 : decode cL_opening 22 = .ok (.ireturn, 1) := by decide +kernel
set_option maxRecDepth 20000 in
theorem ggL_limit_X3_limit : GoodIn wsL_limit wsX3_limit := goodIn_ca (goodIn_r _ [6, 7, 8, 9, 5, 10, 11, 12, 13, 14, 15, 16, 17, 18, 19] (by decide +kernel) (by decide +kernel)) (goodIn_sub (fun _ h => List.mem_cons_of_mem _ (List.mem_append_right _ h)) (by decide +kernel))
set_option maxRecDepth 20000 in
theorem gL_limit_X3_limit : GoodIn wsL_limit (wsV RL 27 RX3 yX3_limit wsX3_limit) := goodIn_app (goodIn_of _ (by decide +kernel)) ggL_limit_X3_limit
theorem dL_limit_0 : decode cL_limit 0 = .ok (.aload_n 2, 1) := by decide +kernel
theorem dL_limit_1 : decode cL_limit 1 = .ok (.iconst 0, 1) := by decide +kernel
theorem dL_limit_2 : decode cL_limit 2 = .ok (.aload_n 0, 1) := by decide +kernel
theorem dL_limit_3 : decode cL_limit 3 = .ok (.iload_n 1, 1) := by decide +kernel
theorem dL_limit_4 : decode cL_limit 4 = .ok (.invokevirtual 27, 3) := by decide +kernel
theorem dL_limit_7 : decode cL_limit 7 = .ok (.i2l, 1) := by decide +kernel
theorem dL_limit_8 : decode cL_limit 8 = .ok (.lastore, 1) := by decide +kernel
theorem dL_limit_9 : decode cL_limit 9 = .ok (.goto 6, 3) := by decide +kernel
theorem dL_limit_12 : decode cL_limit 12 = .ok (.astore_n 3, 1) := by decide +kernel
theorem dL_limit_13 : decode cL_limit 13 = .ok (.iconst 1, 1) := by decide +kernel
theorem dL_limit_14 : decode cL_limit 14 = .ok (.ireturn, 1) := by decide +kernel
theorem dL_limit_15 : decode cL_limit 15 = .ok (.iconst 0, 1) := by decide +kernel
theorem dL_limit_16 : decode cL_limit 16 = .ok (.ireturn, 1) := by decide +kernel
set_option maxRecDepth 20000 in
theorem ggL_area_X3_area : GoodIn wsL_area wsX3_area := goodIn_ca (goodIn_r _ [6, 7, 8, 9, 10, 5, 11, 12, 13, 14, 15, 16, 17, 18, 19, 20, 21, 22, 23, 24, 25, 26, 27, 28, 29, 30, 31, 32, 33, 34, 35, 36, 37, 38, 39, 40, 41, 42, 43] (by decide +kernel) (by decide +kernel)) (goodIn_sub (fun _ h => List.mem_cons_of_mem _ (List.mem_append_right _ h)) (by decide +kernel))
set_option maxRecDepth 20000 in
theorem gL_area_X3_area : GoodIn wsL_area (wsV RL 31 RX3 yX3_area wsX3_area) := goodIn_app (goodIn_of _ (by decide +kernel)) ggL_area_X3_area
theorem dL_area_0 : decode cL_area 0 = .ok (.aload_n 1, 1) := by decide +kernel
theorem dL_area_1 : decode cL_area 1 = .ok (.iconst 0, 1) := by decide +kernel
theorem dL_area_2 : decode cL_area 2 = .ok (.aload_n 0, 1) := by decide +kernel
theorem dL_area_3 : decode cL_area 3 = .ok (.invokevirtual 31, 3) := by decide +kernel
theorem dL_area_6 : decode cL_area 6 = .ok (.i2l, 1) := by decide +kernel
theorem dL_area_7 : decode cL_area 7 = .ok (.lastore, 1) := by decide +kernel
theorem dL_area_8 : decode cL_area 8 = .ok (.goto 6, 3) := by decide +kernel
theorem dL_area_11 : decode cL_area 11 = .ok (.astore_n 2, 1) := by decide +kernel
theorem dL_area_12 : decode cL_area 12 = .ok (.iconst 1, 1) := by decide +kernel
theorem dL_area_13 : decode cL_area 13 = .ok (.ireturn, 1) := by decide +kernel
theorem dL_area_14 : decode cL_area 14 = .ok (.iconst 0, 1) := by decide +kernel
theorem dL_area_15 : decode cL_area 15 = .ok (.ireturn, 1) := by decide +kernel
set_option maxRecDepth 20000 in
theorem ggL_areaByStrips_X3_areaByStrips : GoodIn wsL_areaByStrips wsX3_areaByStrips := goodIn_ca (goodIn_r _ [6, 7, 8, 9, 10, 5, 11, 12, 13, 14, 15, 16, 17, 18, 19, 20, 21, 22, 23, 24, 25, 26, 27, 28, 29, 30, 31, 32, 33, 34, 35, 36, 37, 38, 39, 40, 41, 42, 43, 44, 45, 46, 47, 48, 49] (by decide +kernel) (by decide +kernel)) (goodIn_sub (fun _ h => List.mem_cons_of_mem _ (List.mem_append_right _ h)) (by decide +kernel))
set_option maxRecDepth 20000 in
theorem gL_areaByStrips_X3_areaByStrips : GoodIn wsL_areaByStrips (wsV RL 35 RX3 yX3_areaByStrips wsX3_areaByStrips) := goodIn_app (goodIn_of _ (by decide +kernel)) ggL_areaByStrips_X3_areaByStrips
theorem dL_areaByStrips_0 : decode cL_areaByStrips 0 = .ok (.aload_n 1, 1) := by decide +kernel
theorem dL_areaByStrips_1 : decode cL_areaByStrips 1 = .ok (.iconst 0, 1) := by decide +kernel
theorem dL_areaByStrips_2 : decode cL_areaByStrips 2 = .ok (.aload_n 0, 1) := by decide +kernel
theorem dL_areaByStrips_3 : decode cL_areaByStrips 3 = .ok (.invokevirtual 35, 3) := by decide +kernel
theorem dL_areaByStrips_6 : decode cL_areaByStrips 6 = .ok (.i2l, 1) := by decide +kernel
theorem dL_areaByStrips_7 : decode cL_areaByStrips 7 = .ok (.lastore, 1) := by decide +kernel
theorem dL_areaByStrips_8 : decode cL_areaByStrips 8 = .ok (.goto 6, 3) := by decide +kernel
theorem dL_areaByStrips_11 : decode cL_areaByStrips 11 = .ok (.astore_n 2, 1) := by decide +kernel
theorem dL_areaByStrips_12 : decode cL_areaByStrips 12 = .ok (.iconst 1, 1) := by decide +kernel
theorem dL_areaByStrips_13 : decode cL_areaByStrips 13 = .ok (.ireturn, 1) := by decide +kernel
theorem dL_areaByStrips_14 : decode cL_areaByStrips 14 = .ok (.iconst 0, 1) := by decide +kernel
theorem dL_areaByStrips_15 : decode cL_areaByStrips 15 = .ok (.ireturn, 1) := by decide +kernel
set_option maxRecDepth 20000 in
theorem ggL_netArea_X3_netArea : GoodIn wsL_netArea wsX3_netArea := goodIn_ca (goodIn_r _ [6, 7, 8, 9, 10, 11, 5, 12, 13, 14, 15, 16, 17, 18, 19, 20, 21, 22, 23, 24, 25, 26, 27, 28, 29, 30, 31, 32, 33, 34, 35, 36, 37, 38, 39, 40, 41, 42, 43, 44, 45, 46, 47, 48, 49, 50, 51, 52] (by decide +kernel) (by decide +kernel)) (goodIn_sub (fun _ h => List.mem_cons_of_mem _ (List.mem_append_right _ h)) (by decide +kernel))
set_option maxRecDepth 20000 in
theorem gL_netArea_X3_netArea : GoodIn wsL_netArea (wsV RL 38 RX3 yX3_netArea wsX3_netArea) := goodIn_app (goodIn_of _ (by decide +kernel)) ggL_netArea_X3_netArea
theorem dL_netArea_0 : decode cL_netArea 0 = .ok (.aload_n 1, 1) := by decide +kernel
theorem dL_netArea_1 : decode cL_netArea 1 = .ok (.iconst 0, 1) := by decide +kernel
theorem dL_netArea_2 : decode cL_netArea 2 = .ok (.aload_n 0, 1) := by decide +kernel
theorem dL_netArea_3 : decode cL_netArea 3 = .ok (.invokevirtual 38, 3) := by decide +kernel
theorem dL_netArea_6 : decode cL_netArea 6 = .ok (.i2l, 1) := by decide +kernel
theorem dL_netArea_7 : decode cL_netArea 7 = .ok (.lastore, 1) := by decide +kernel
theorem dL_netArea_8 : decode cL_netArea 8 = .ok (.goto 6, 3) := by decide +kernel
theorem dL_netArea_11 : decode cL_netArea 11 = .ok (.astore_n 2, 1) := by decide +kernel
theorem dL_netArea_12 : decode cL_netArea 12 = .ok (.iconst 1, 1) := by decide +kernel
theorem dL_netArea_13 : decode cL_netArea 13 = .ok (.ireturn, 1) := by decide +kernel
theorem dL_netArea_14 : decode cL_netArea 14 = .ok (.iconst 0, 1) := by decide +kernel
theorem dL_netArea_15 : decode cL_netArea 15 = .ok (.ireturn, 1) := by decide +kernel
set_option maxRecDepth 20000 in
theorem ggL_rate_X3_rate : GoodIn wsL_rate wsX3_rate := goodIn_ca (goodIn_ca (goodIn_r _ [7, 8, 9, 10, 11, 12, 13, 14, 15, 16, 6, 17, 18, 19, 20, 21, 22, 23, 24, 25, 26, 27, 28, 29, 30, 31, 32, 33, 34, 35, 36, 37, 38, 39, 40, 41, 42, 43, 44, 45, 46, 47, 48, 49, 50, 51, 52, 53, 54, 55, 56, 57, 58, 59, 60, 61, 62, 63, 64, 65, 66, 67, 68, 69, 70, 71, 72, 73, 74, 75, 76, 77, 78, 79, 80, 81, 82, 83, 84, 85, 86, 87, 88, 89, 90, 91, 92, 93, 94, 95, 96, 97, 98, 99, 100, 101, 102, 103, 104, 105, 106, 107, 108, 109, 110, 111, 112, 113, 114, 115, 116, 117, 118, 119, 120, 121] (by decide +kernel) (by decide +kernel)) (goodIn_sub (fun _ h => List.mem_cons_of_mem _ (List.mem_append_left _ (List.mem_append_right _ h))) (by decide +kernel))) (goodIn_sub (fun _ h => List.mem_cons_of_mem _ (List.mem_append_right _ h)) (by decide +kernel))
set_option maxRecDepth 20000 in
theorem gL_rate_X3_rate : GoodIn wsL_rate (wsV RL 41 RX3 yX3_rate wsX3_rate) := goodIn_app (goodIn_of _ (by decide +kernel)) ggL_rate_X3_rate
theorem dL_rate_0 : decode cL_rate 0 = .ok (.aload 4, 2) := by decide +kernel
theorem dL_rate_2 : decode cL_rate 2 = .ok (.iconst 0, 1) := by decide +kernel
theorem dL_rate_3 : decode cL_rate 3 = .ok (.aload_n 0, 1) := by decide +kernel
theorem dL_rate_4 : decode cL_rate 4 = .ok (.iload_n 1, 1) := by decide +kernel
theorem dL_rate_5 : decode cL_rate 5 = .ok (.iload_n 2, 1) := by decide +kernel
theorem dL_rate_6 : decode cL_rate 6 = .ok (.iload_n 3, 1) := by decide +kernel
theorem dL_rate_7 : decode cL_rate 7 = .ok (.invokevirtual 41, 3) := by decide +kernel
theorem dL_rate_10 : decode cL_rate 10 = .ok (.i2l, 1) := by decide +kernel
theorem dL_rate_11 : decode cL_rate 11 = .ok (.lastore, 1) := by decide +kernel
theorem dL_rate_12 : decode cL_rate 12 = .ok (.goto 11, 3) := by decide +kernel
theorem dL_rate_15 : decode cL_rate 15 = .ok (.astore 5, 2) := by decide +kernel
theorem dL_rate_17 : decode cL_rate 17 = .ok (.iconst 1, 1) := by decide +kernel
theorem dL_rate_18 : decode cL_rate 18 = .ok (.ireturn, 1) := by decide +kernel
theorem dL_rate_19 : decode cL_rate 19 = .ok (.astore 5, 2) := by decide +kernel
theorem dL_rate_21 : decode cL_rate 21 = .ok (.iconst 2, 1) := by decide +kernel
theorem dL_rate_22 : decode cL_rate 22 = .ok (.ireturn, 1) := by decide +kernel
theorem dL_rate_23 : decode cL_rate 23 = .ok (.iconst 0, 1) := by decide +kernel
theorem dL_rate_24 : decode cL_rate 24 = .ok (.ireturn, 1) := by decide +kernel
set_option maxRecDepth 20000 in
theorem ggL_price_X3_price : GoodIn wsL_price wsX3_price := goodIn_ca (goodIn_r _ [6, 7, 8, 9, 5, 10, 11, 12, 13, 14, 15, 16, 17, 18, 19] (by decide +kernel) (by decide +kernel)) (goodIn_sub (fun _ h => List.mem_cons_of_mem _ (List.mem_append_right _ h)) (by decide +kernel))
set_option maxRecDepth 20000 in
theorem gL_price_X3_price : GoodIn wsL_price (wsV RL 45 RX3 yX3_price wsX3_price) := goodIn_app (goodIn_of _ (by decide +kernel)) ggL_price_X3_price
theorem dL_price_0 : decode cL_price 0 = .ok (.aload_n 3, 1) := by decide +kernel
theorem dL_price_1 : decode cL_price 1 = .ok (.iconst 0, 1) := by decide +kernel
theorem dL_price_2 : decode cL_price 2 = .ok (.aload_n 0, 1) := by decide +kernel
theorem dL_price_3 : decode cL_price 3 = .ok (.iload_n 1, 1) := by decide +kernel
theorem dL_price_4 : decode cL_price 4 = .ok (.iload_n 2, 1) := by decide +kernel
theorem dL_price_5 : decode cL_price 5 = .ok (.invokevirtual 45, 3) := by decide +kernel
theorem dL_price_8 : decode cL_price 8 = .ok (.i2l, 1) := by decide +kernel
theorem dL_price_9 : decode cL_price 9 = .ok (.lastore, 1) := by decide +kernel
theorem dL_price_10 : decode cL_price 10 = .ok (.goto 7, 3) := by decide +kernel
theorem dL_price_13 : decode cL_price 13 = .ok (.astore 4, 2) := by decide +kernel
theorem dL_price_15 : decode cL_price 15 = .ok (.iconst 1, 1) := by decide +kernel
theorem dL_price_16 : decode cL_price 16 = .ok (.ireturn, 1) := by decide +kernel
theorem dL_price_17 : decode cL_price 17 = .ok (.iconst 0, 1) := by decide +kernel
theorem dL_price_18 : decode cL_price 18 = .ok (.ireturn, 1) := by decide +kernel
set_option maxRecDepth 20000 in
theorem ggL_rateOf_X3_rateOf : GoodIn wsL_rateOf wsX3_rateOf := goodIn_ca (goodIn_r _ [6, 7, 8, 9, 5, 10, 11, 12, 13, 14, 15, 16, 17, 18, 19, 20, 21, 22, 23, 24, 25, 26, 27, 28, 29, 30, 31, 32, 33, 34, 35, 36, 37, 38, 39, 40, 41, 42, 43, 44, 45, 46, 47, 48, 49, 50, 51, 52, 53, 54, 55, 56, 57, 58] (by decide +kernel) (by decide +kernel)) (goodIn_sub (fun _ h => List.mem_cons_of_mem _ (List.mem_append_right _ h)) (by decide +kernel))
set_option maxRecDepth 20000 in
theorem gL_rateOf_X3_rateOf : GoodIn wsL_rateOf (wsV RL 48 RX3 yX3_rateOf wsX3_rateOf) := goodIn_app (goodIn_of _ (by decide +kernel)) ggL_rateOf_X3_rateOf
theorem dL_rateOf_0 : decode cL_rateOf 0 = .ok (.aload_n 2, 1) := by decide +kernel
theorem dL_rateOf_1 : decode cL_rateOf 1 = .ok (.iconst 0, 1) := by decide +kernel
theorem dL_rateOf_2 : decode cL_rateOf 2 = .ok (.aload_n 0, 1) := by decide +kernel
theorem dL_rateOf_3 : decode cL_rateOf 3 = .ok (.iload_n 1, 1) := by decide +kernel
theorem dL_rateOf_4 : decode cL_rateOf 4 = .ok (.invokevirtual 48, 3) := by decide +kernel
theorem dL_rateOf_7 : decode cL_rateOf 7 = .ok (.i2l, 1) := by decide +kernel
theorem dL_rateOf_8 : decode cL_rateOf 8 = .ok (.lastore, 1) := by decide +kernel
theorem dL_rateOf_9 : decode cL_rateOf 9 = .ok (.goto 6, 3) := by decide +kernel
theorem dL_rateOf_12 : decode cL_rateOf 12 = .ok (.astore_n 3, 1) := by decide +kernel
theorem dL_rateOf_13 : decode cL_rateOf 13 = .ok (.iconst 1, 1) := by decide +kernel
theorem dL_rateOf_14 : decode cL_rateOf 14 = .ok (.ireturn, 1) := by decide +kernel
theorem dL_rateOf_15 : decode cL_rateOf 15 = .ok (.iconst 0, 1) := by decide +kernel
theorem dL_rateOf_16 : decode cL_rateOf 16 = .ok (.ireturn, 1) := by decide +kernel
set_option maxRecDepth 20000 in
theorem ggL_heading_X3_heading : GoodIn wsL_heading wsX3_heading := goodIn_ca (goodIn_ca (goodIn_r _ [7, 8, 9, 10, 6, 11, 12, 13, 14, 15, 16, 17, 18, 19, 20, 21, 22, 23, 24, 25, 26, 27, 28, 29, 30, 31, 32, 33, 34, 35, 36, 37, 38, 39, 40, 41, 42, 43, 44, 45, 46, 47, 48, 49, 50, 51, 52, 53, 54, 55, 56, 57, 58, 59, 60, 61, 62, 63, 64, 65, 66, 67, 68, 69, 70, 71, 72, 73, 74, 75, 76, 77, 78, 79, 80, 81, 82, 83, 84, 85, 86, 87, 88, 89, 90, 91, 92, 93, 94, 95, 96, 97, 98, 99, 100, 101, 102, 103, 104, 105, 106, 107, 108, 109, 110, 111, 112, 113, 114, 115, 116, 117, 118, 119, 120, 121, 122, 123, 124, 125, 126, 127, 128, 129, 130, 131, 132, 133] (by decide +kernel) (by decide +kernel)) (goodIn_sub (fun _ h => List.mem_cons_of_mem _ (List.mem_append_left _ (List.mem_append_right _ h))) (by decide +kernel))) (goodIn_sub (fun _ h => List.mem_cons_of_mem _ (List.mem_append_right _ h)) (by decide +kernel))
set_option maxRecDepth 20000 in
theorem gL_heading_X3_heading : GoodIn wsL_heading (wsV RL 51 RX3 yX3_heading wsX3_heading) := goodIn_app (goodIn_of _ (by decide +kernel)) ggL_heading_X3_heading
theorem dL_heading_0 : decode cL_heading 0 = .ok (.aload_n 2, 1) := by decide +kernel
theorem dL_heading_1 : decode cL_heading 1 = .ok (.iconst 0, 1) := by decide +kernel
theorem dL_heading_2 : decode cL_heading 2 = .ok (.aload_n 0, 1) := by decide +kernel
theorem dL_heading_3 : decode cL_heading 3 = .ok (.iload_n 1, 1) := by decide +kernel
theorem dL_heading_4 : decode cL_heading 4 = .ok (.invokevirtual 51, 3) := by decide +kernel
theorem dL_heading_7 : decode cL_heading 7 = .ok (.i2l, 1) := by decide +kernel
theorem dL_heading_8 : decode cL_heading 8 = .ok (.lastore, 1) := by decide +kernel
theorem dL_heading_9 : decode cL_heading 9 = .ok (.goto 9, 3) := by decide +kernel
theorem dL_heading_12 : decode cL_heading 12 = .ok (.astore_n 3, 1) := by decide +kernel
theorem dL_heading_13 : decode cL_heading 13 = .ok (.iconst 1, 1) := by decide +kernel
theorem dL_heading_14 : decode cL_heading 14 = .ok (.ireturn, 1) := by decide +kernel
theorem dL_heading_15 : decode cL_heading 15 = .ok (.astore_n 3, 1) := by decide +kernel
theorem dL_heading_16 : decode cL_heading 16 = .ok (.iconst 2, 1) := by decide +kernel
theorem dL_heading_17 : decode cL_heading 17 = .ok (.ireturn, 1) := by decide +kernel
theorem dL_heading_18 : decode cL_heading 18 = .ok (.iconst 0, 1) := by decide +kernel
theorem dL_heading_19 : decode cL_heading 19 = .ok (.ireturn, 1) := by decide +kernel
set_option maxRecDepth 20000 in
theorem ggL_leaf_X3_leaf : GoodIn wsL_leaf wsX3_leaf := goodIn_ca (goodIn_ca (goodIn_ca (goodIn_r _ [8, 9, 10, 11, 7, 12, 13, 14, 15, 16, 17, 18, 19, 20, 21, 22, 23, 24, 25, 26, 27, 28, 29, 30, 31, 32, 33, 34, 35, 36, 37, 38, 39, 40, 41, 42, 43, 44, 45, 46, 47, 48, 49, 50, 51, 52, 53, 54, 55, 56, 57, 58, 59, 60, 61, 62, 63, 64, 65, 66, 67, 68, 69, 70, 71, 72, 73, 74, 75, 76, 77, 78, 79, 80, 81, 82, 83, 84, 85, 86, 87, 88, 89, 90, 91, 92, 93, 94, 95, 96, 97, 98, 99, 100, 101, 102, 103, 104, 105, 106, 107, 108, 109, 110, 111, 112, 113, 114, 115, 116, 117, 118, 119, 120, 121, 122, 123, 124, 125, 126, 127, 128, 129, 130, 131, 132, 133, 134, 135, 136, 137, 138, 139, 140, 141, 142, 143, 144, 145] (by decide +kernel) (by decide +kernel)) (goodIn_sub (fun _ h => List.mem_cons_of_mem _ (List.mem_append_left _ (List.mem_append_left _ (List.mem_append_right _ h)))) (by decide +kernel))) (goodIn_sub (fun _ h => List.mem_cons_of_mem _ (List.mem_append_left _ (List.mem_append_right _ h))) (by decide +kernel))) (goodIn_sub (fun _ h => List.mem_cons_of_mem _ (List.mem_append_right _ h)) (by decide +kernel))
set_option maxRecDepth 20000 in
theorem gL_leaf_X3_leaf : GoodIn wsL_leaf (wsV RL 54 RX3 yX3_leaf wsX3_leaf) := goodIn_app (goodIn_of _ (by decide +kernel)) ggL_leaf_X3_leaf
theorem dL_leaf_0 : decode cL_leaf 0 = .ok (.aload 4, 2) := by decide +kernel
theorem dL_leaf_2 : decode cL_leaf 2 = .ok (.iconst 0, 1) := by decide +kernel
theorem dL_leaf_3 : decode cL_leaf 3 = .ok (.aload_n 0, 1) := by decide +kernel
theorem dL_leaf_4 : decode cL_leaf 4 = .ok (.iload_n 1, 1) := by decide +kernel
theorem dL_leaf_5 : decode cL_leaf 5 = .ok (.iload_n 2, 1) := by decide +kernel
theorem dL_leaf_6 : decode cL_leaf 6 = .ok (.iload_n 3, 1) := by decide +kernel
theorem dL_leaf_7 : decode cL_leaf 7 = .ok (.invokevirtual 54, 3) := by decide +kernel
theorem dL_leaf_10 : decode cL_leaf 10 = .ok (.i2l, 1) := by decide +kernel
theorem dL_leaf_11 : decode cL_leaf 11 = .ok (.lastore, 1) := by decide +kernel
theorem dL_leaf_12 : decode cL_leaf 12 = .ok (.goto 15, 3) := by decide +kernel
theorem dL_leaf_15 : decode cL_leaf 15 = .ok (.astore 5, 2) := by decide +kernel
theorem dL_leaf_17 : decode cL_leaf 17 = .ok (.iconst 1, 1) := by decide +kernel
theorem dL_leaf_18 : decode cL_leaf 18 = .ok (.ireturn, 1) := by decide +kernel
theorem dL_leaf_19 : decode cL_leaf 19 = .ok (.astore 5, 2) := by decide +kernel
theorem dL_leaf_21 : decode cL_leaf 21 = .ok (.iconst 2, 1) := by decide +kernel
theorem dL_leaf_22 : decode cL_leaf 22 = .ok (.ireturn, 1) := by decide +kernel
theorem dL_leaf_23 : decode cL_leaf 23 = .ok (.astore 5, 2) := by decide +kernel
theorem dL_leaf_25 : decode cL_leaf 25 = .ok (.iconst 3, 1) := by decide +kernel
theorem dL_leaf_26 : decode cL_leaf 26 = .ok (.ireturn, 1) := by decide +kernel
theorem dL_leaf_27 : decode cL_leaf 27 = .ok (.iconst 0, 1) := by decide +kernel
theorem dL_leaf_28 : decode cL_leaf 28 = .ok (.ireturn, 1) := by decide +kernel
set_option maxRecDepth 20000 in
theorem ggL_take_X3_take : GoodIn wsL_take wsX3_take := goodIn_ca (goodIn_ca (goodIn_ca (goodIn_r _ [8, 9, 10, 11, 12, 13, 14, 7, 15, 16, 17, 18, 19, 20, 21, 22, 23, 24, 25, 26, 27, 28, 29, 30, 31, 32, 33, 34, 35, 36, 37, 38, 39, 40, 41, 42, 43, 44, 45, 46, 47, 48, 49, 50, 51, 52, 53, 54, 55, 56, 57, 58, 59, 60, 61, 62, 63, 64, 65, 66, 67, 68, 69, 70, 71, 72, 73, 74, 75, 76, 77, 78, 79, 80, 81, 82, 83, 84, 85, 86, 87, 88, 89, 90, 91, 92, 93, 94, 95, 96, 97, 98, 99, 100, 101, 102, 103, 104, 105, 106, 107, 108, 109, 110, 111, 112, 113, 114, 115] (by decide +kernel) (by decide +kernel)) (goodIn_sub (fun _ h => List.mem_cons_of_mem _ (List.mem_append_left _ (List.mem_append_left _ (List.mem_append_right _ h)))) (by decide +kernel))) (goodIn_sub (fun _ h => List.mem_cons_of_mem _ (List.mem_append_left _ (List.mem_append_right _ h))) (by decide +kernel))) (goodIn_sub (fun _ h => List.mem_cons_of_mem _ (List.mem_append_right _ h)) (by decide +kernel))
set_option maxRecDepth 20000 in
theorem gL_take_X3_take : GoodIn wsL_take (wsV RL 57 RX3 yX3_take wsX3_take) := goodIn_app (goodIn_of _ (by decide +kernel)) ggL_take_X3_take
theorem dL_take_0 : decode cL_take 0 = .ok (.aload_n 3, 1) := by decide +kernel
theorem dL_take_1 : decode cL_take 1 = .ok (.iconst 0, 1) := by decide +kernel
theorem dL_take_2 : decode cL_take 2 = .ok (.aload_n 0, 1) := by decide +kernel
theorem dL_take_3 : decode cL_take 3 = .ok (.iload_n 1, 1) := by decide +kernel
theorem dL_take_4 : decode cL_take 4 = .ok (.iload_n 2, 1) := by decide +kernel
theorem dL_take_5 : decode cL_take 5 = .ok (.invokevirtual 57, 3) := by decide +kernel
theorem dL_take_8 : decode cL_take 8 = .ok (.i2l, 1) := by decide +kernel
theorem dL_take_9 : decode cL_take 9 = .ok (.lastore, 1) := by decide +kernel
theorem dL_take_10 : decode cL_take 10 = .ok (.goto 15, 3) := by decide +kernel
theorem dL_take_13 : decode cL_take 13 = .ok (.astore 4, 2) := by decide +kernel
theorem dL_take_15 : decode cL_take 15 = .ok (.iconst 1, 1) := by decide +kernel
theorem dL_take_16 : decode cL_take 16 = .ok (.ireturn, 1) := by decide +kernel
theorem dL_take_17 : decode cL_take 17 = .ok (.astore 4, 2) := by decide +kernel
theorem dL_take_19 : decode cL_take 19 = .ok (.iconst 2, 1) := by decide +kernel
theorem dL_take_20 : decode cL_take 20 = .ok (.ireturn, 1) := by decide +kernel
theorem dL_take_21 : decode cL_take 21 = .ok (.astore 4, 2) := by decide +kernel
theorem dL_take_23 : decode cL_take 23 = .ok (.iconst 3, 1) := by decide +kernel
theorem dL_take_24 : decode cL_take 24 = .ok (.ireturn, 1) := by decide +kernel
theorem dL_take_25 : decode cL_take 25 = .ok (.iconst 0, 1) := by decide +kernel
theorem dL_take_26 : decode cL_take 26 = .ok (.ireturn, 1) := by decide +kernel
set_option maxRecDepth 20000 in
theorem ggL_vary_X3_vary : GoodIn wsL_vary wsX3_vary := goodIn_ca (goodIn_ca (goodIn_ca (goodIn_r _ [8, 9, 10, 11, 12, 13, 14, 7, 15, 16, 17, 18, 19, 20, 21, 22, 23, 24, 25, 26, 27, 28, 29, 30, 31, 32, 33, 34, 35, 36, 37, 38, 39, 40, 41, 42, 43, 44, 45, 46, 47, 48, 49, 50, 51, 52, 53, 54, 55, 56, 57, 58, 59, 60, 61, 62, 63, 64, 65, 66, 67, 68, 69, 70, 71, 72] (by decide +kernel) (by decide +kernel)) (goodIn_sub (fun _ h => List.mem_cons_of_mem _ (List.mem_append_left _ (List.mem_append_left _ (List.mem_append_right _ h)))) (by decide +kernel))) (goodIn_sub (fun _ h => List.mem_cons_of_mem _ (List.mem_append_left _ (List.mem_append_right _ h))) (by decide +kernel))) (goodIn_sub (fun _ h => List.mem_cons_of_mem _ (List.mem_append_right _ h)) (by decide +kernel))
set_option maxRecDepth 20000 in
theorem gL_vary_X3_vary : GoodIn wsL_vary (wsV RL 60 RX3 yX3_vary wsX3_vary) := goodIn_app (goodIn_of _ (by decide +kernel)) ggL_vary_X3_vary
theorem dL_vary_0 : decode cL_vary 0 = .ok (.aload_n 3, 1) := by decide +kernel
theorem dL_vary_1 : decode cL_vary 1 = .ok (.iconst 0, 1) := by decide +kernel
theorem dL_vary_2 : decode cL_vary 2 = .ok (.aload_n 0, 1) := by decide +kernel
theorem dL_vary_3 : decode cL_vary 3 = .ok (.iload_n 1, 1) := by decide +kernel
theorem dL_vary_4 : decode cL_vary 4 = .ok (.iload_n 2, 1) := by decide +kernel
theorem dL_vary_5 : decode cL_vary 5 = .ok (.invokevirtual 60, 3) := by decide +kernel
theorem dL_vary_8 : decode cL_vary 8 = .ok (.i2l, 1) := by decide +kernel
theorem dL_vary_9 : decode cL_vary 9 = .ok (.lastore, 1) := by decide +kernel
theorem dL_vary_10 : decode cL_vary 10 = .ok (.goto 15, 3) := by decide +kernel
theorem dL_vary_13 : decode cL_vary 13 = .ok (.astore 4, 2) := by decide +kernel
theorem dL_vary_15 : decode cL_vary 15 = .ok (.iconst 1, 1) := by decide +kernel
theorem dL_vary_16 : decode cL_vary 16 = .ok (.ireturn, 1) := by decide +kernel
theorem dL_vary_17 : decode cL_vary 17 = .ok (.astore 4, 2) := by decide +kernel
theorem dL_vary_19 : decode cL_vary 19 = .ok (.iconst 2, 1) := by decide +kernel
theorem dL_vary_20 : decode cL_vary 20 = .ok (.ireturn, 1) := by decide +kernel
theorem dL_vary_21 : decode cL_vary 21 = .ok (.astore 4, 2) := by decide +kernel
theorem dL_vary_23 : decode cL_vary 23 = .ok (.iconst 3, 1) := by decide +kernel
theorem dL_vary_24 : decode cL_vary 24 = .ok (.ireturn, 1) := by decide +kernel
theorem dL_vary_25 : decode cL_vary 25 = .ok (.iconst 0, 1) := by decide +kernel
theorem dL_vary_26 : decode cL_vary 26 = .ok (.ireturn, 1) := by decide +kernel
set_option maxRecDepth 20000 in
theorem ggL_quantity_X3_quantity : GoodIn wsL_quantity wsX3_quantity := goodIn_ca (goodIn_ca (goodIn_r _ [7, 8, 9, 10, 6, 11, 12, 13, 14, 15, 16, 17, 18, 19, 20, 21, 22, 23, 24, 25, 26, 27, 28, 29, 30, 31, 32, 33, 34, 35, 36, 37, 38, 39, 40, 41, 42, 43, 44, 45, 46, 47, 48, 49, 50, 51, 52, 53, 54, 55, 56, 57, 58, 59, 60, 61, 62, 63, 64, 65, 66, 67, 68, 69, 70, 71, 72, 73, 74] (by decide +kernel) (by decide +kernel)) (goodIn_sub (fun _ h => List.mem_cons_of_mem _ (List.mem_append_left _ (List.mem_append_right _ h))) (by decide +kernel))) (goodIn_sub (fun _ h => List.mem_cons_of_mem _ (List.mem_append_right _ h)) (by decide +kernel))
set_option maxRecDepth 20000 in
theorem gL_quantity_X3_quantity : GoodIn wsL_quantity (wsV RL 63 RX3 yX3_quantity wsX3_quantity) := goodIn_app (goodIn_of _ (by decide +kernel)) ggL_quantity_X3_quantity
theorem dL_quantity_0 : decode cL_quantity 0 = .ok (.aload_n 2, 1) := by decide +kernel
theorem dL_quantity_1 : decode cL_quantity 1 = .ok (.iconst 0, 1) := by decide +kernel
theorem dL_quantity_2 : decode cL_quantity 2 = .ok (.aload_n 0, 1) := by decide +kernel
theorem dL_quantity_3 : decode cL_quantity 3 = .ok (.iload_n 1, 1) := by decide +kernel
theorem dL_quantity_4 : decode cL_quantity 4 = .ok (.invokevirtual 63, 3) := by decide +kernel
theorem dL_quantity_7 : decode cL_quantity 7 = .ok (.i2l, 1) := by decide +kernel
theorem dL_quantity_8 : decode cL_quantity 8 = .ok (.lastore, 1) := by decide +kernel
theorem dL_quantity_9 : decode cL_quantity 9 = .ok (.goto 9, 3) := by decide +kernel
theorem dL_quantity_12 : decode cL_quantity 12 = .ok (.astore_n 3, 1) := by decide +kernel
theorem dL_quantity_13 : decode cL_quantity 13 = .ok (.iconst 1, 1) := by decide +kernel
theorem dL_quantity_14 : decode cL_quantity 14 = .ok (.ireturn, 1) := by decide +kernel
theorem dL_quantity_15 : decode cL_quantity 15 = .ok (.astore_n 3, 1) := by decide +kernel
theorem dL_quantity_16 : decode cL_quantity 16 = .ok (.iconst 2, 1) := by decide +kernel
theorem dL_quantity_17 : decode cL_quantity 17 = .ok (.ireturn, 1) := by decide +kernel
theorem dL_quantity_18 : decode cL_quantity 18 = .ok (.iconst 0, 1) := by decide +kernel
theorem dL_quantity_19 : decode cL_quantity 19 = .ok (.ireturn, 1) := by decide +kernel
set_option maxRecDepth 20000 in
theorem ggL_sum_X3_sum : GoodIn wsL_sum wsX3_sum := goodIn_ca (goodIn_r _ [6, 7, 8, 9, 10, 11, 5, 12, 13, 14, 15, 16, 17, 18, 19, 20, 21, 22, 23, 24, 25, 26, 27, 28, 29, 30, 31, 32, 33, 34, 35, 36, 37, 38, 39, 40, 41, 42, 43, 44, 45, 46, 47, 48, 49, 50, 51, 52, 53, 54, 55, 56, 57, 58, 59, 60, 61, 62, 63, 64, 65, 66, 67, 68, 69, 70, 71, 72, 73, 74, 75, 76, 77, 78, 79, 80, 81, 82, 83, 84, 85, 86, 87, 88, 89] (by decide +kernel) (by decide +kernel)) (goodIn_sub (fun _ h => List.mem_cons_of_mem _ (List.mem_append_right _ h)) (by decide +kernel))
set_option maxRecDepth 20000 in
theorem gL_sum_X3_sum : GoodIn wsL_sum (wsV RL 66 RX3 yX3_sum wsX3_sum) := goodIn_app (goodIn_of _ (by decide +kernel)) ggL_sum_X3_sum
theorem dL_sum_0 : decode cL_sum 0 = .ok (.aload_n 2, 1) := by decide +kernel
theorem dL_sum_1 : decode cL_sum 1 = .ok (.iconst 0, 1) := by decide +kernel
theorem dL_sum_2 : decode cL_sum 2 = .ok (.aload_n 0, 1) := by decide +kernel
theorem dL_sum_3 : decode cL_sum 3 = .ok (.iload_n 1, 1) := by decide +kernel
theorem dL_sum_4 : decode cL_sum 4 = .ok (.invokevirtual 66, 3) := by decide +kernel
theorem dL_sum_7 : decode cL_sum 7 = .ok (.lastore, 1) := by decide +kernel
theorem dL_sum_8 : decode cL_sum 8 = .ok (.goto 6, 3) := by decide +kernel
theorem dL_sum_11 : decode cL_sum 11 = .ok (.astore_n 3, 1) := by decide +kernel
theorem dL_sum_12 : decode cL_sum 12 = .ok (.iconst 1, 1) := by decide +kernel
theorem dL_sum_13 : decode cL_sum 13 = .ok (.ireturn, 1) := by decide +kernel
theorem dL_sum_14 : decode cL_sum 14 = .ok (.iconst 0, 1) := by decide +kernel
theorem dL_sum_15 : decode cL_sum 15 = .ok (.ireturn, 1) := by decide +kernel
set_option maxRecDepth 20000 in
theorem ggL_dearest_X3_dearest : GoodIn wsL_dearest wsX3_dearest := goodIn_ca (goodIn_r _ [6, 7, 8, 9, 10, 11, 12, 5, 13, 14, 15, 16, 17, 18, 19, 20, 21, 22, 23, 24, 25, 26, 27, 28, 29, 30, 31, 32, 33, 34, 35, 36, 37, 38, 39, 40, 41, 42, 43, 44, 45, 46, 47, 48, 49, 50, 51, 52, 53, 54, 55, 56, 57, 58, 59, 60, 61, 62, 63, 64, 65, 66, 67, 68, 69, 70, 71, 72, 73, 74, 75, 76, 77, 78, 79, 80, 81, 82, 83, 84, 85, 86, 87, 88, 89, 90, 91, 92, 93, 94, 95] (by decide +kernel) (by decide +kernel)) (goodIn_sub (fun _ h => List.mem_cons_of_mem _ (List.mem_append_right _ h)) (by decide +kernel))
set_option maxRecDepth 20000 in
theorem gL_dearest_X3_dearest : GoodIn wsL_dearest (wsV RL 70 RX3 yX3_dearest wsX3_dearest) := goodIn_app (goodIn_of _ (by decide +kernel)) ggL_dearest_X3_dearest
theorem dL_dearest_0 : decode cL_dearest 0 = .ok (.aload_n 2, 1) := by decide +kernel
theorem dL_dearest_1 : decode cL_dearest 1 = .ok (.iconst 0, 1) := by decide +kernel
theorem dL_dearest_2 : decode cL_dearest 2 = .ok (.aload_n 0, 1) := by decide +kernel
theorem dL_dearest_3 : decode cL_dearest 3 = .ok (.iload_n 1, 1) := by decide +kernel
theorem dL_dearest_4 : decode cL_dearest 4 = .ok (.invokevirtual 70, 3) := by decide +kernel
theorem dL_dearest_7 : decode cL_dearest 7 = .ok (.i2l, 1) := by decide +kernel
theorem dL_dearest_8 : decode cL_dearest 8 = .ok (.lastore, 1) := by decide +kernel
theorem dL_dearest_9 : decode cL_dearest 9 = .ok (.goto 6, 3) := by decide +kernel
theorem dL_dearest_12 : decode cL_dearest 12 = .ok (.astore_n 3, 1) := by decide +kernel
theorem dL_dearest_13 : decode cL_dearest 13 = .ok (.iconst 1, 1) := by decide +kernel
theorem dL_dearest_14 : decode cL_dearest 14 = .ok (.ireturn, 1) := by decide +kernel
theorem dL_dearest_15 : decode cL_dearest 15 = .ok (.iconst 0, 1) := by decide +kernel
theorem dL_dearest_16 : decode cL_dearest 16 = .ok (.ireturn, 1) := by decide +kernel
set_option maxRecDepth 20000 in
theorem ggL_done_X3_done : GoodIn wsL_done wsX3_done := goodIn_ca (goodIn_ca (goodIn_ca (goodIn_r _ [8, 9, 10, 11, 12, 7, 13, 14, 15, 16, 17, 18, 19, 20, 21, 22, 23, 24, 25, 26, 27, 28, 29, 30, 31, 32, 33, 34, 35, 36, 37, 38, 39, 40, 41, 42, 43, 44, 45, 46, 47, 48, 49, 50, 51, 52, 53, 54, 55, 56, 57, 58, 59, 60, 61, 62, 63, 64, 65, 66, 67, 68, 69, 70, 71, 72] (by decide +kernel) (by decide +kernel)) (goodIn_sub (fun _ h => List.mem_cons_of_mem _ (List.mem_append_left _ (List.mem_append_left _ (List.mem_append_right _ h)))) (by decide +kernel))) (goodIn_sub (fun _ h => List.mem_cons_of_mem _ (List.mem_append_left _ (List.mem_append_right _ h))) (by decide +kernel))) (goodIn_sub (fun _ h => List.mem_cons_of_mem _ (List.mem_append_right _ h)) (by decide +kernel))
set_option maxRecDepth 20000 in
theorem gL_done_X3_done : GoodIn wsL_done (wsV RL 73 RX3 yX3_done wsX3_done) := goodIn_app (goodIn_of _ (by decide +kernel)) ggL_done_X3_done
theorem dL_done_0 : decode cL_done 0 = .ok (.aload_n 3, 1) := by decide +kernel
theorem dL_done_1 : decode cL_done 1 = .ok (.iconst 0, 1) := by decide +kernel
theorem dL_done_2 : decode cL_done 2 = .ok (.aload_n 0, 1) := by decide +kernel
theorem dL_done_3 : decode cL_done 3 = .ok (.iload_n 1, 1) := by decide +kernel
theorem dL_done_4 : decode cL_done 4 = .ok (.iload_n 2, 1) := by decide +kernel
theorem dL_done_5 : decode cL_done 5 = .ok (.invokevirtual 73, 3) := by decide +kernel
theorem dL_done_8 : decode cL_done 8 = .ok (.i2l, 1) := by decide +kernel
theorem dL_done_9 : decode cL_done 9 = .ok (.lastore, 1) := by decide +kernel
theorem dL_done_10 : decode cL_done 10 = .ok (.goto 15, 3) := by decide +kernel
theorem dL_done_13 : decode cL_done 13 = .ok (.astore 4, 2) := by decide +kernel
theorem dL_done_15 : decode cL_done 15 = .ok (.iconst 1, 1) := by decide +kernel
theorem dL_done_16 : decode cL_done 16 = .ok (.ireturn, 1) := by decide +kernel
theorem dL_done_17 : decode cL_done 17 = .ok (.astore 4, 2) := by decide +kernel
theorem dL_done_19 : decode cL_done 19 = .ok (.iconst 2, 1) := by decide +kernel
theorem dL_done_20 : decode cL_done 20 = .ok (.ireturn, 1) := by decide +kernel
theorem dL_done_21 : decode cL_done 21 = .ok (.astore 4, 2) := by decide +kernel
theorem dL_done_23 : decode cL_done 23 = .ok (.iconst 3, 1) := by decide +kernel
theorem dL_done_24 : decode cL_done 24 = .ok (.ireturn, 1) := by decide +kernel
theorem dL_done_25 : decode cL_done 25 = .ok (.iconst 0, 1) := by decide +kernel
theorem dL_done_26 : decode cL_done 26 = .ok (.ireturn, 1) := by decide +kernel
set_option maxRecDepth 20000 in
theorem ggL_retention_X3_retention : GoodIn wsL_retention wsX3_retention := goodIn_ca (goodIn_r _ [6, 7, 8, 9, 5, 10, 11, 12, 13, 14, 15, 16, 17, 18, 19] (by decide +kernel) (by decide +kernel)) (goodIn_sub (fun _ h => List.mem_cons_of_mem _ (List.mem_append_right _ h)) (by decide +kernel))
set_option maxRecDepth 20000 in
theorem gL_retention_X3_retention : GoodIn wsL_retention (wsV RL 76 RX3 yX3_retention wsX3_retention) := goodIn_app (goodIn_of _ (by decide +kernel)) ggL_retention_X3_retention
theorem dL_retention_0 : decode cL_retention 0 = .ok (.aload_n 2, 1) := by decide +kernel
theorem dL_retention_1 : decode cL_retention 1 = .ok (.iconst 0, 1) := by decide +kernel
theorem dL_retention_2 : decode cL_retention 2 = .ok (.aload_n 0, 1) := by decide +kernel
theorem dL_retention_3 : decode cL_retention 3 = .ok (.iload_n 1, 1) := by decide +kernel
theorem dL_retention_4 : decode cL_retention 4 = .ok (.invokevirtual 76, 3) := by decide +kernel
theorem dL_retention_7 : decode cL_retention 7 = .ok (.i2l, 1) := by decide +kernel
theorem dL_retention_8 : decode cL_retention 8 = .ok (.lastore, 1) := by decide +kernel
theorem dL_retention_9 : decode cL_retention 9 = .ok (.goto 6, 3) := by decide +kernel
theorem dL_retention_12 : decode cL_retention 12 = .ok (.astore_n 3, 1) := by decide +kernel
theorem dL_retention_13 : decode cL_retention 13 = .ok (.iconst 1, 1) := by decide +kernel
theorem dL_retention_14 : decode cL_retention 14 = .ok (.ireturn, 1) := by decide +kernel
theorem dL_retention_15 : decode cL_retention 15 = .ok (.iconst 0, 1) := by decide +kernel
theorem dL_retention_16 : decode cL_retention 16 = .ok (.ireturn, 1) := by decide +kernel
set_option maxRecDepth 20000 in
theorem ggL_claim_X3_claim : GoodIn wsL_claim wsX3_claim := goodIn_ca (goodIn_r _ [6, 7, 8, 9, 10, 11, 12, 5, 13, 14, 15, 16, 17, 18, 19, 20, 21, 22, 23, 24, 25, 26, 27, 28, 29, 30, 31, 32, 33, 34, 35, 36, 37, 38, 39, 40, 41, 42, 43, 44, 45, 46, 47, 48, 49, 50, 51, 52, 53, 54, 55, 56, 57, 58, 59, 60, 61, 62, 63, 64, 65, 66, 67, 68, 69, 70, 71, 72, 73, 74, 75, 76, 77, 78, 79, 80, 81, 82, 83, 84, 85, 86, 87, 88, 89, 90, 91, 92] (by decide +kernel) (by decide +kernel)) (goodIn_sub (fun _ h => List.mem_cons_of_mem _ (List.mem_append_right _ h)) (by decide +kernel))
set_option maxRecDepth 20000 in
theorem gL_claim_X3_claim : GoodIn wsL_claim (wsV RL 79 RX3 yX3_claim wsX3_claim) := goodIn_app (goodIn_of _ (by decide +kernel)) ggL_claim_X3_claim
theorem dL_claim_0 : decode cL_claim 0 = .ok (.aload_n 1, 1) := by decide +kernel
theorem dL_claim_1 : decode cL_claim 1 = .ok (.iconst 0, 1) := by decide +kernel
theorem dL_claim_2 : decode cL_claim 2 = .ok (.aload_n 0, 1) := by decide +kernel
theorem dL_claim_3 : decode cL_claim 3 = .ok (.invokevirtual 79, 3) := by decide +kernel
theorem dL_claim_6 : decode cL_claim 6 = .ok (.lastore, 1) := by decide +kernel
theorem dL_claim_7 : decode cL_claim 7 = .ok (.goto 6, 3) := by decide +kernel
theorem dL_claim_10 : decode cL_claim 10 = .ok (.astore_n 2, 1) := by decide +kernel
theorem dL_claim_11 : decode cL_claim 11 = .ok (.iconst 1, 1) := by decide +kernel
theorem dL_claim_12 : decode cL_claim 12 = .ok (.ireturn, 1) := by decide +kernel
theorem dL_claim_13 : decode cL_claim 13 = .ok (.iconst 0, 1) := by decide +kernel
theorem dL_claim_14 : decode cL_claim 14 = .ok (.ireturn, 1) := by decide +kernel
set_option maxRecDepth 20000 in
theorem ggL_law_X3_init : GoodIn wsL_law wsX3_init := goodIn_r _ [9, 10, 11, 12, 13, 14, 15, 16, 17, 18, 19, 20, 21, 22, 23, 24, 25, 26, 27, 28, 29, 6, 30, 31, 32, 33, 34, 35, 36, 37, 38, 39, 40, 41, 42, 43, 44, 45, 46, 47, 698, 699, 700, 701, 702, 703, 704, 705, 706, 707, 708, 709, 665, 666, 667, 668, 669, 670, 671, 710, 711, 712] (by decide +kernel) (by decide +kernel)
set_option maxRecDepth 20000 in
theorem gL_law_X3_init : GoodIn wsL_law (wsX3_init) := ggL_law_X3_init
set_option maxRecDepth 20000 in
theorem ggL_law_X4_init : GoodIn wsL_law wsX4_init := goodIn_r _ [50, 51, 11, 12, 52, 53, 22, 54, 55, 56, 57, 58, 59, 60, 61, 62, 63, 6, 64, 65, 672, 673, 674, 675, 676, 677, 678, 679, 680, 681, 682, 683, 684, 685, 686, 687, 688, 689, 690, 691, 692, 693, 694, 695, 696, 697] (by decide +kernel) (by decide +kernel)
set_option maxRecDepth 20000 in
theorem gL_law_X4_init : GoodIn wsL_law (wsX4_init) := ggL_law_X4_init
set_option maxRecDepth 20000 in
theorem ggL_law_L_begin : GoodIn wsL_law wsL_begin := goodIn_ca (goodIn_r _ [69, 70, 71, 72, 73, 2, 74, 16, 75, 76, 77, 78, 79, 80, 81, 82, 15, 83, 30, 31, 32, 84, 85, 86, 87, 88, 89, 90, 91, 92, 93, 94, 95, 96, 97, 98, 99, 100, 101, 102, 103, 104, 105, 665, 666, 667, 668, 669, 670, 671, 698, 699, 700, 701, 702, 703, 704, 705, 706, 707, 708, 709] (by decide +kernel) (by decide +kernel)) (goodIn_sub (fun _ h => List.mem_append_left _ (List.mem_append_left _ (List.mem_append_right _ h))) (by decide +kernel))
set_option maxRecDepth 20000 in
theorem gL_law_L_begin : GoodIn wsL_law (va_wsS RL 87 yL_begin wsL_begin) := goodIn_app (goodIn_of _ (by decide +kernel)) ggL_law_L_begin
set_option maxRecDepth 20000 in
theorem ggL_law_X4_begin : GoodIn wsL_law wsX4_begin := goodIn_r _ [109, 53, 110, 111, 112, 113, 114, 115, 116, 117, 118, 119, 120, 5, 121, 122, 123, 124, 125, 126, 672, 673, 674, 675, 676, 677, 678, 679, 680, 681, 682, 683, 684, 685, 686, 687, 688, 689, 690, 691, 692, 693, 694, 695, 696, 697] (by decide +kernel) (by decide +kernel)
set_option maxRecDepth 20000 in
theorem gL_law_X4_begin : GoodIn wsL_law (wsV RL 92 RX4 yX4_begin wsX4_begin) := goodIn_app (goodIn_of _ (by decide +kernel)) ggL_law_X4_begin
set_option maxRecDepth 20000 in
theorem ggL_law_X4_thrown : GoodIn wsL_law wsX4_thrown := goodIn_r _ [130, 126, 672, 673, 674, 675, 676, 677, 678, 679, 680, 681, 682, 683, 684, 685, 686, 687, 688, 689, 690, 691, 692, 693, 694, 695, 696, 697] (by decide +kernel) (by decide +kernel)
set_option maxRecDepth 20000 in
theorem gL_law_X4_thrown : GoodIn wsL_law (wsV RL 93 RX4 yX4_thrown wsX4_thrown) := goodIn_app (goodIn_of _ (by decide +kernel)) ggL_law_X4_thrown
set_option maxRecDepth 20000 in
theorem ggL_law_L_wall : GoodIn wsL_law wsL_wall := goodIn_ca (goodIn_ca (goodIn_ca (goodIn_r _ [133, 70, 134, 135, 136, 137, 138, 2, 139, 140, 141, 142, 143, 16, 144, 145, 75, 76, 77, 78, 79, 146, 147, 148, 15, 149, 89, 90, 150, 151, 152, 153, 154, 155, 156, 157, 158, 159, 30, 103, 104, 105, 160, 161, 162, 163, 164, 165, 166, 87, 88, 85, 167, 168, 169, 170, 171, 172, 173, 174, 175, 176, 177, 31, 86, 92, 100, 101, 102, 665, 666, 667, 668, 669, 670, 671, 698, 699, 700, 701, 702, 703, 704, 705, 706, 707, 708, 709] (by decide +kernel) (by decide +kernel)) (goodIn_sub (fun _ h => List.mem_append_left _ (List.mem_append_right _ h)) (by decide +kernel))) (goodIn_sub (fun _ h => List.mem_append_right _ h) (by decide +kernel))) (goodIn_sub (fun _ h => List.mem_append_left _ (List.mem_append_left _ (List.mem_append_right _ h))) (by decide +kernel))
set_option maxRecDepth 20000 in
theorem gL_law_L_wall : GoodIn wsL_law (va_wsS RL 96 yL_wall wsL_wall) := goodIn_app (goodIn_of _ (by decide +kernel)) ggL_law_L_wall
set_option maxRecDepth 20000 in
theorem ggL_law_X4_wall : GoodIn wsL_law wsX4_wall := goodIn_r _ [181, 110, 111, 114, 115, 53, 116, 117, 119, 120, 5, 121, 182, 183, 184, 185, 112, 113, 122, 123, 124, 125, 126, 672, 673, 674, 675, 676, 677, 678, 679, 680, 681, 682, 683, 684, 685, 686, 687, 688, 689, 690, 691, 692, 693, 694, 695, 696, 697] (by decide +kernel) (by decide +kernel)
set_option maxRecDepth 20000 in
theorem gL_law_X4_wall : GoodIn wsL_law (wsV RL 99 RX4 yX4_wall wsX4_wall) := goodIn_app (goodIn_of _ (by decide +kernel)) ggL_law_X4_wall
set_option maxRecDepth 20000 in
theorem ggL_law_L_opening : GoodIn wsL_law wsL_opening := goodIn_ca (goodIn_ca (goodIn_r _ [188, 70, 134, 189, 190, 191, 2, 192, 140, 141, 16, 193, 75, 76, 77, 78, 79, 194, 195, 196, 197, 145, 198, 199, 200, 15, 201, 84, 32, 665, 666, 667, 668, 669, 670, 671, 698, 699, 700, 701, 702, 703, 704, 705, 706, 707, 708, 709] (by decide +kernel) (by decide +kernel)) (goodIn_sub (fun _ h => List.mem_append_left _ (List.mem_append_right _ h)) (by decide +kernel))) (goodIn_sub (fun _ h => List.mem_append_left _ (List.mem_append_left _ (List.mem_append_right _ h))) (by decide +kernel))
set_option maxRecDepth 20000 in
theorem gL_law_L_opening : GoodIn wsL_law (va_wsS RL 100 yL_opening wsL_opening) := goodIn_app (goodIn_of _ (by decide +kernel)) ggL_law_L_opening
set_option maxRecDepth 20000 in
theorem ggL_law_X4_opening : GoodIn wsL_law wsX4_opening := goodIn_r _ [205, 110, 111, 118, 54, 119, 120, 5, 121, 122, 123, 124, 125, 126, 672, 673, 674, 675, 676, 677, 678, 679, 680, 681, 682, 683, 684, 685, 686, 687, 688, 689, 690, 691, 692, 693, 694, 695, 696, 697] (by decide +kernel) (by decide +kernel)
set_option maxRecDepth 20000 in
theorem gL_law_X4_opening : GoodIn wsL_law (wsV RL 102 RX4 yX4_opening wsX4_opening) := goodIn_app (goodIn_of _ (by decide +kernel)) ggL_law_X4_opening
set_option maxRecDepth 20000 in
theorem ggL_law_L_limit : GoodIn wsL_law wsL_limit := goodIn_ca (goodIn_r _ [208, 70, 209, 210, 211, 2, 212, 24, 75, 76, 77, 78, 79, 665, 666, 667, 668, 669, 670, 671] (by decide +kernel) (by decide +kernel)) (goodIn_sub (fun _ h => List.mem_append_left _ (List.mem_append_left _ (List.mem_append_right _ h))) (by decide +kernel))
set_option maxRecDepth 20000 in
theorem gL_law_L_limit : GoodIn wsL_law (va_wsS RL 103 yL_limit wsL_limit) := goodIn_app (goodIn_of _ (by decide +kernel)) ggL_law_L_limit
set_option maxRecDepth 20000 in
theorem ggL_law_X4_limit : GoodIn wsL_law wsX4_limit := goodIn_r _ [216, 55, 119, 120, 5, 121, 122, 123, 124, 125, 126, 672, 673, 674, 675, 676, 677, 678, 679, 680, 681, 682, 683, 684, 685, 686, 687, 688, 689, 690, 691, 692, 693, 694, 695, 696, 697] (by decide +kernel) (by decide +kernel)
set_option maxRecDepth 20000 in
theorem gL_law_X4_limit : GoodIn wsL_law (wsV RL 106 RX4 yX4_limit wsX4_limit) := goodIn_app (goodIn_of _ (by decide +kernel)) ggL_law_X4_limit
set_option maxRecDepth 20000 in
theorem ggL_law_L_area : GoodIn wsL_law wsL_area := goodIn_ca (goodIn_r _ [219, 134, 220, 221, 222, 2, 223, 16, 194, 195, 196, 197, 140, 141, 145, 224, 225, 226, 15, 227, 86, 228, 229, 173, 230, 665, 666, 667, 668, 669, 670, 671, 698, 699, 700, 701, 702, 703, 704, 705, 706, 707, 708, 709] (by decide +kernel) (by decide +kernel)) (goodIn_sub (fun _ h => List.mem_append_left _ (List.mem_append_right _ h)) (by decide +kernel))
set_option maxRecDepth 20000 in
theorem gL_law_L_area : GoodIn wsL_law (va_wsS RL 107 yL_area wsL_area) := goodIn_app (goodIn_of _ (by decide +kernel)) ggL_law_L_area
set_option maxRecDepth 20000 in
theorem ggL_law_X4_area : GoodIn wsL_law wsX4_area := goodIn_r _ [234, 110, 111, 122, 123, 124, 5, 125, 126, 235, 236, 237, 238, 117, 672, 673, 674, 675, 676, 677, 678, 679, 680, 681, 682, 683, 684, 685, 686, 687, 688, 689, 690, 691, 692, 693, 694, 695, 696, 697] (by decide +kernel) (by decide +kernel)
set_option maxRecDepth 20000 in
theorem gL_law_X4_area : GoodIn wsL_law (wsV RL 110 RX4 yX4_area wsX4_area) := goodIn_app (goodIn_of _ (by decide +kernel)) ggL_law_X4_area
set_option maxRecDepth 20000 in
theorem ggL_law_L_areaByStrips : GoodIn wsL_law wsL_areaByStrips := goodIn_ca (goodIn_r _ [241, 134, 242, 243, 244, 2, 245, 16, 194, 195, 196, 197, 140, 141, 145, 246, 247, 248, 15, 249, 250, 251, 252, 253, 31, 160, 161, 162, 103, 104, 105, 665, 666, 667, 668, 669, 670, 671, 698, 699, 700, 701, 702, 703, 704, 705, 706, 707, 708, 709] (by decide +kernel) (by decide +kernel)) (goodIn_sub (fun _ h => List.mem_append_left _ (List.mem_append_right _ h)) (by decide +kernel))
set_option maxRecDepth 20000 in
theorem gL_law_L_areaByStrips : GoodIn wsL_law (va_wsS RL 111 yL_areaByStrips wsL_areaByStrips) := goodIn_app (goodIn_of _ (by decide +kernel)) ggL_law_L_areaByStrips
set_option maxRecDepth 20000 in
theorem ggL_law_X4_areaByStrips : GoodIn wsL_law wsX4_areaByStrips := goodIn_r _ [257, 258, 232, 233, 5, 234, 110, 111, 122, 123, 124, 125, 126, 235, 236, 237, 238, 117, 672, 673, 674, 675, 676, 677, 678, 679, 680, 681, 682, 683, 684, 685, 686, 687, 688, 689, 690, 691, 692, 693, 694, 695, 696, 697] (by decide +kernel) (by decide +kernel)
set_option maxRecDepth 20000 in
theorem gL_law_X4_areaByStrips : GoodIn wsL_law (wsV RL 113 RX4 yX4_areaByStrips wsX4_areaByStrips) := goodIn_app (goodIn_of _ (by decide +kernel)) ggL_law_X4_areaByStrips
set_option maxRecDepth 20000 in
theorem ggL_law_L_netArea : GoodIn wsL_law wsL_netArea := goodIn_ca (goodIn_r _ [261, 134, 262, 263, 264, 2, 265, 16, 24, 194, 195, 196, 197, 140, 141, 145, 266, 267, 268, 15, 269, 32, 175, 176, 173, 177, 270, 225, 226, 227, 86, 228, 229, 230, 665, 666, 667, 668, 669, 670, 671, 698, 699, 700, 701, 702, 703, 704, 705, 706, 707, 708, 709] (by decide +kernel) (by decide +kernel)) (goodIn_sub (fun _ h => List.mem_append_left _ (List.mem_append_right _ h)) (by decide +kernel))
set_option maxRecDepth 20000 in
theorem gL_law_L_netArea : GoodIn wsL_law (va_wsS RL 114 yL_netArea wsL_netArea) := goodIn_app (goodIn_of _ (by decide +kernel)) ggL_law_L_netArea
set_option maxRecDepth 20000 in
theorem ggL_law_X4_netArea : GoodIn wsL_law wsX4_netArea := goodIn_r _ [274, 110, 111, 122, 123, 124, 5, 125, 126, 275, 276, 277, 278, 118, 54, 55, 235, 236, 237, 238, 117, 672, 673, 674, 675, 676, 677, 678, 679, 680, 681, 682, 683, 684, 685, 686, 687, 688, 689, 690, 691, 692, 693, 694, 695, 696, 697] (by decide +kernel) (by decide +kernel)
set_option maxRecDepth 20000 in
theorem gL_law_X4_netArea : GoodIn wsL_law (wsV RL 116 RX4 yX4_netArea wsX4_netArea) := goodIn_app (goodIn_of _ (by decide +kernel)) ggL_law_X4_netArea
set_option maxRecDepth 20000 in
theorem ggL_law_L_rate : GoodIn wsL_law wsL_rate := goodIn_ca (goodIn_ca (goodIn_r _ [281, 70, 134, 282, 283, 284, 2, 285, 140, 141, 20, 286, 287, 288, 289, 75, 76, 77, 78, 79, 290, 291, 292, 19, 293, 294, 295, 296, 297, 298, 299, 300, 301, 302, 303, 304, 305, 306, 307, 308, 309, 310, 37, 311, 312, 313, 314, 315, 316, 317, 318, 319, 320, 321, 11, 12, 322, 323, 324, 325, 326, 327, 328, 329, 330, 331, 332, 333, 334, 335, 336, 337, 338, 339, 36, 340, 176, 173, 177, 341, 342, 343, 344, 345, 346, 347, 348, 349, 350, 351, 352, 95, 353, 354, 355, 356, 357, 358, 359, 360, 361, 362, 363, 172, 174, 364, 365, 366, 367, 665, 666, 667, 668, 669, 670, 671, 713, 714, 715, 710, 711, 712] (by decide +kernel) (by decide +kernel)) (goodIn_sub (fun _ h => List.mem_append_left _ (List.mem_append_right _ h)) (by decide +kernel))) (goodIn_sub (fun _ h => List.mem_append_left _ (List.mem_append_left _ (List.mem_append_right _ h))) (by decide +kernel))
set_option maxRecDepth 20000 in
theorem gL_law_L_rate : GoodIn wsL_law (va_wsS RL 117 yL_rate wsL_rate) := goodIn_app (goodIn_of _ (by decide +kernel)) ggL_law_L_rate
set_option maxRecDepth 20000 in
theorem ggL_law_X4_rate : GoodIn wsL_law wsX4_rate := goodIn_r _ [371, 372, 56, 119, 120, 5, 121, 122, 123, 124, 125, 126, 672, 673, 674, 675, 676, 677, 678, 679, 680, 681, 682, 683, 684, 685, 686, 687, 688, 689, 690, 691, 692, 693, 694, 695, 696, 697] (by decide +kernel) (by decide +kernel)
set_option maxRecDepth 20000 in
theorem gL_law_X4_rate : GoodIn wsL_law (wsV RL 120 RX4 yX4_rate wsX4_rate) := goodIn_app (goodIn_of _ (by decide +kernel)) ggL_law_X4_rate
set_option maxRecDepth 20000 in
theorem ggL_law_L_price : GoodIn wsL_law wsL_price := goodIn_ca (goodIn_r _ [375, 70, 376, 377, 378, 2, 379, 23, 75, 76, 77, 78, 79, 665, 666, 667, 668, 669, 670, 671] (by decide +kernel) (by decide +kernel)) (goodIn_sub (fun _ h => List.mem_append_left _ (List.mem_append_left _ (List.mem_append_right _ h))) (by decide +kernel))
set_option maxRecDepth 20000 in
theorem gL_law_L_price : GoodIn wsL_law (va_wsS RL 121 yL_price wsL_price) := goodIn_app (goodIn_of _ (by decide +kernel)) ggL_law_L_price
set_option maxRecDepth 20000 in
theorem ggL_law_X4_price : GoodIn wsL_law wsX4_price := goodIn_r _ [383, 57, 119, 120, 5, 121, 122, 123, 124, 125, 126, 672, 673, 674, 675, 676, 677, 678, 679, 680, 681, 682, 683, 684, 685, 686, 687, 688, 689, 690, 691, 692, 693, 694, 695, 696, 697] (by decide +kernel) (by decide +kernel)
set_option maxRecDepth 20000 in
theorem gL_law_X4_price : GoodIn wsL_law (wsV RL 123 RX4 yX4_price wsX4_price) := goodIn_app (goodIn_of _ (by decide +kernel)) ggL_law_X4_price
set_option maxRecDepth 20000 in
theorem ggL_law_L_rateOf : GoodIn wsL_law wsL_rateOf := goodIn_ca (goodIn_r _ [386, 135, 387, 388, 389, 2, 390, 391, 392, 393, 394, 142, 143, 20, 286, 290, 291, 292, 19, 293, 294, 295, 296, 297, 298, 299, 300, 301, 302, 303, 304, 305, 306, 307, 308, 309, 310, 37, 395, 396, 397, 398, 399, 23, 400, 401, 665, 666, 667, 668, 669, 670, 671, 710, 711, 712, 713, 714, 715] (by decide +kernel) (by decide +kernel)) (goodIn_sub (fun _ h => List.mem_append_right _ h) (by decide +kernel))
set_option maxRecDepth 20000 in
theorem gL_law_L_rateOf : GoodIn wsL_law (va_wsS RL 124 yL_rateOf wsL_rateOf) := goodIn_app (goodIn_of _ (by decide +kernel)) ggL_law_L_rateOf
set_option maxRecDepth 20000 in
theorem ggL_law_X4_rateOf : GoodIn wsL_law wsX4_rateOf := goodIn_r _ [405, 406, 407, 408, 5, 409, 372, 119, 120, 121, 122, 123, 124, 125, 126, 410, 411, 412, 413, 56, 57, 672, 673, 674, 675, 676, 677, 678, 679, 680, 681, 682, 683, 684, 685, 686, 687, 688, 689, 690, 691, 692, 693, 694, 695, 696, 697] (by decide +kernel) (by decide +kernel)
set_option maxRecDepth 20000 in
theorem gL_law_X4_rateOf : GoodIn wsL_law (wsV RL 126 RX4 yX4_rateOf wsX4_rateOf) := goodIn_app (goodIn_of _ (by decide +kernel)) ggL_law_X4_rateOf
set_option maxRecDepth 20000 in
theorem ggL_law_L_heading : GoodIn wsL_law wsL_heading := goodIn_ca (goodIn_ca (goodIn_r _ [416, 135, 134, 417, 418, 419, 2, 420, 421, 422, 423, 424, 425, 426, 427, 428, 142, 143, 21, 429, 290, 291, 292, 19, 293, 294, 295, 296, 297, 298, 299, 300, 301, 302, 303, 304, 305, 306, 307, 308, 309, 310, 37, 430, 431, 432, 433, 140, 141, 434, 435, 436, 437, 438, 439, 440, 441, 442, 443, 444, 445, 11, 12, 446, 447, 322, 323, 324, 325, 326, 327, 328, 329, 330, 331, 332, 333, 334, 335, 336, 337, 338, 339, 36, 340, 176, 173, 177, 341, 342, 343, 344, 345, 346, 347, 348, 349, 350, 351, 352, 95, 353, 354, 355, 356, 357, 358, 359, 360, 361, 362, 363, 172, 174, 364, 365, 366, 367, 665, 666, 667, 668, 669, 670, 671, 710, 711, 712, 716, 717, 718, 719, 720, 721] (by decide +kernel) (by decide +kernel)) (goodIn_sub (fun _ h => List.mem_append_right _ h) (by decide +kernel))) (goodIn_sub (fun _ h => List.mem_append_left _ (List.mem_append_right _ h)) (by decide +kernel))
set_option maxRecDepth 20000 in
theorem gL_law_L_heading : GoodIn wsL_law (va_wsS RL 127 yL_heading wsL_heading) := goodIn_app (goodIn_of _ (by decide +kernel)) ggL_law_L_heading
set_option maxRecDepth 20000 in
theorem ggL_law_X4_heading : GoodIn wsL_law wsX4_heading := goodIn_r _ [451, 452, 453, 454, 455, 5, 456, 119, 120, 121, 457, 458, 459, 460, 461, 462, 463, 464, 59, 122, 123, 124, 125, 126, 465, 466, 467, 468, 58, 60, 672, 673, 674, 675, 676, 677, 678, 679, 680, 681, 682, 683, 684, 685, 686, 687, 688, 689, 690, 691, 692, 693, 694, 695, 696, 697] (by decide +kernel) (by decide +kernel)
set_option maxRecDepth 20000 in
theorem gL_law_X4_heading : GoodIn wsL_law (wsV RL 129 RX4 yX4_heading wsX4_heading) := goodIn_app (goodIn_of _ (by decide +kernel)) ggL_law_X4_heading
set_option maxRecDepth 20000 in
theorem ggL_law_L_leaf : GoodIn wsL_law wsL_leaf := goodIn_ca (goodIn_ca (goodIn_ca (goodIn_r _ [471, 135, 70, 134, 472, 473, 474, 2, 475, 421, 422, 423, 424, 425, 426, 427, 428, 142, 143, 21, 429, 290, 291, 292, 19, 293, 294, 295, 296, 297, 298, 299, 300, 301, 302, 303, 304, 305, 306, 307, 308, 309, 310, 37, 391, 392, 393, 394, 20, 286, 75, 76, 77, 78, 79, 430, 431, 432, 433, 140, 141, 434, 435, 436, 437, 438, 439, 440, 441, 442, 443, 444, 445, 11, 12, 446, 447, 322, 323, 324, 325, 326, 327, 328, 329, 330, 331, 332, 333, 334, 335, 336, 337, 338, 339, 36, 340, 176, 173, 177, 341, 342, 343, 344, 345, 346, 347, 348, 349, 350, 351, 352, 95, 353, 354, 355, 356, 357, 358, 359, 360, 361, 362, 363, 172, 174, 364, 365, 366, 367, 665, 666, 667, 668, 669, 670, 671, 710, 711, 712, 716, 717, 718, 719, 720, 721] (by decide +kernel) (by decide +kernel)) (goodIn_sub (fun _ h => List.mem_append_right _ h) (by decide +kernel))) (goodIn_sub (fun _ h => List.mem_append_left _ (List.mem_append_left _ (List.mem_append_right _ h))) (by decide +kernel))) (goodIn_sub (fun _ h => List.mem_append_left _ (List.mem_append_right _ h)) (by decide +kernel))
set_option maxRecDepth 20000 in
theorem gL_law_L_leaf : GoodIn wsL_law (va_wsS RL 130 yL_leaf wsL_leaf) := goodIn_app (goodIn_of _ (by decide +kernel)) ggL_law_L_leaf
set_option maxRecDepth 20000 in
theorem ggL_law_X4_leaf : GoodIn wsL_law wsX4_leaf := goodIn_r _ [479, 452, 453, 454, 455, 5, 456, 119, 120, 121, 406, 407, 408, 409, 372, 457, 458, 459, 460, 461, 462, 463, 464, 59, 122, 123, 124, 125, 126, 465, 466, 467, 468, 58, 60, 672, 673, 674, 675, 676, 677, 678, 679, 680, 681, 682, 683, 684, 685, 686, 687, 688, 689, 690, 691, 692, 693, 694, 695, 696, 697] (by decide +kernel) (by decide +kernel)
set_option maxRecDepth 20000 in
theorem gL_law_X4_leaf : GoodIn wsL_law (wsV RL 132 RX4 yX4_leaf wsX4_leaf) := goodIn_app (goodIn_of _ (by decide +kernel)) ggL_law_X4_leaf
set_option maxRecDepth 20000 in
theorem ggL_law_X3_items : GoodIn wsL_law wsX3_items := goodIn_r _ [483, 21, 290, 291, 292, 19, 293, 294, 665, 666, 667, 668, 669, 670, 671, 710, 711, 712] (by decide +kernel) (by decide +kernel)
set_option maxRecDepth 20000 in
theorem gL_law_X3_items : GoodIn wsL_law (wsV RL 133 RX3 yX3_items wsX3_items) := goodIn_app (goodIn_of _ (by decide +kernel)) ggL_law_X3_items
set_option maxRecDepth 20000 in
theorem ggL_law_X4_items : GoodIn wsL_law wsX4_items := goodIn_r _ [487, 126, 452, 672, 673, 674, 675, 676, 677, 678, 679, 680, 681, 682, 683, 684, 685, 686, 687, 688, 689, 690, 691, 692, 693, 694, 695, 696, 697] (by decide +kernel) (by decide +kernel)
set_option maxRecDepth 20000 in
theorem gL_law_X4_items : GoodIn wsL_law (wsV RL 136 RX4 yX4_items wsX4_items) := goodIn_app (goodIn_of _ (by decide +kernel)) ggL_law_X4_items
set_option maxRecDepth 20000 in
theorem ggL_law_L_take : GoodIn wsL_law wsL_take := goodIn_ca (goodIn_ca (goodIn_ca (goodIn_r _ [490, 135, 70, 134, 491, 492, 493, 2, 494, 495, 16, 24, 425, 426, 427, 428, 142, 143, 21, 429, 290, 291, 292, 19, 293, 294, 295, 296, 297, 298, 299, 300, 301, 302, 303, 304, 305, 306, 307, 308, 309, 310, 37, 75, 76, 77, 78, 79, 496, 497, 498, 140, 141, 437, 438, 439, 436, 440, 441, 194, 195, 196, 197, 145, 266, 267, 268, 15, 269, 32, 175, 176, 173, 177, 270, 225, 226, 227, 86, 228, 229, 230, 499, 500, 501, 502, 91, 92, 716, 717, 718, 719, 720, 721, 665, 666, 667, 668, 669, 670, 671, 710, 711, 712, 698, 699, 700, 701, 702, 703, 704, 705, 706, 707, 708, 709] (by decide +kernel) (by decide +kernel)) (goodIn_sub (fun _ h => List.mem_append_right _ h) (by decide +kernel))) (goodIn_sub (fun _ h => List.mem_append_left _ (List.mem_append_left _ (List.mem_append_right _ h))) (by decide +kernel))) (goodIn_sub (fun _ h => List.mem_append_left _ (List.mem_append_right _ h)) (by decide +kernel))
set_option maxRecDepth 20000 in
theorem gL_law_L_take : GoodIn wsL_law (va_wsS RL 137 yL_take wsL_take) := goodIn_app (goodIn_of _ (by decide +kernel)) ggL_law_L_take
set_option maxRecDepth 20000 in
theorem ggL_law_X4_take : GoodIn wsL_law wsX4_take := goodIn_r _ [506, 110, 111, 61, 453, 454, 455, 5, 456, 452, 119, 120, 121, 461, 462, 463, 464, 59, 122, 123, 124, 125, 126, 275, 276, 277, 278, 118, 54, 55, 235, 236, 237, 238, 117, 672, 673, 674, 675, 676, 677, 678, 679, 680, 681, 682, 683, 684, 685, 686, 687, 688, 689, 690, 691, 692, 693, 694, 695, 696, 697] (by decide +kernel) (by decide +kernel)
set_option maxRecDepth 20000 in
theorem gL_law_X4_take : GoodIn wsL_law (wsV RL 139 RX4 yX4_take wsX4_take) := goodIn_app (goodIn_of _ (by decide +kernel)) ggL_law_X4_take
set_option maxRecDepth 20000 in
theorem ggL_law_L_vary : GoodIn wsL_law wsL_vary := goodIn_ca (goodIn_ca (goodIn_ca (goodIn_r _ [509, 135, 70, 134, 510, 511, 512, 2, 513, 140, 141, 514, 425, 426, 427, 428, 142, 143, 21, 429, 290, 291, 292, 19, 293, 294, 295, 296, 297, 298, 299, 300, 301, 302, 303, 304, 305, 306, 307, 308, 309, 310, 37, 75, 76, 77, 78, 79, 496, 497, 498, 437, 438, 439, 436, 440, 441, 716, 717, 718, 719, 720, 721, 665, 666, 667, 668, 669, 670, 671, 710, 711, 712] (by decide +kernel) (by decide +kernel)) (goodIn_sub (fun _ h => List.mem_append_left _ (List.mem_append_right _ h)) (by decide +kernel))) (goodIn_sub (fun _ h => List.mem_append_right _ h) (by decide +kernel))) (goodIn_sub (fun _ h => List.mem_append_left _ (List.mem_append_left _ (List.mem_append_right _ h))) (by decide +kernel))
set_option maxRecDepth 20000 in
theorem gL_law_L_vary : GoodIn wsL_law (va_wsS RL 140 yL_vary wsL_vary) := goodIn_app (goodIn_of _ (by decide +kernel)) ggL_law_L_vary
set_option maxRecDepth 20000 in
theorem ggL_law_X4_vary : GoodIn wsL_law wsX4_vary := goodIn_r _ [518, 62, 453, 454, 455, 5, 456, 452, 119, 120, 121, 461, 462, 463, 464, 59, 122, 123, 124, 125, 126, 672, 673, 674, 675, 676, 677, 678, 679, 680, 681, 682, 683, 684, 685, 686, 687, 688, 689, 690, 691, 692, 693, 694, 695, 696, 697] (by decide +kernel) (by decide +kernel)
set_option maxRecDepth 20000 in
theorem gL_law_X4_vary : GoodIn wsL_law (wsV RL 142 RX4 yX4_vary wsX4_vary) := goodIn_app (goodIn_of _ (by decide +kernel)) ggL_law_X4_vary
set_option maxRecDepth 20000 in
theorem ggL_law_L_quantity : GoodIn wsL_law wsL_quantity := goodIn_ca (goodIn_ca (goodIn_r _ [521, 135, 134, 522, 523, 524, 2, 525, 425, 426, 427, 428, 142, 143, 21, 429, 290, 291, 292, 19, 293, 294, 295, 296, 297, 298, 299, 300, 301, 302, 303, 304, 305, 306, 307, 308, 309, 310, 37, 496, 497, 498, 140, 141, 437, 438, 439, 436, 440, 441, 526, 527, 528, 529, 530, 447, 531, 532, 533, 665, 666, 667, 668, 669, 670, 671, 710, 711, 712, 716, 717, 718, 719, 720, 721] (by decide +kernel) (by decide +kernel)) (goodIn_sub (fun _ h => List.mem_append_right _ h) (by decide +kernel))) (goodIn_sub (fun _ h => List.mem_append_left _ (List.mem_append_right _ h)) (by decide +kernel))
set_option maxRecDepth 20000 in
theorem gL_law_L_quantity : GoodIn wsL_law (va_wsS RL 143 yL_quantity wsL_quantity) := goodIn_app (goodIn_of _ (by decide +kernel)) ggL_law_L_quantity
set_option maxRecDepth 20000 in
theorem ggL_law_X4_quantity : GoodIn wsL_law wsX4_quantity := goodIn_r _ [537, 453, 454, 455, 5, 456, 452, 119, 120, 121, 461, 462, 463, 464, 59, 122, 123, 124, 125, 126, 538, 539, 540, 541, 61, 60, 542, 543, 672, 673, 674, 675, 676, 677, 678, 679, 680, 681, 682, 683, 684, 685, 686, 687, 688, 689, 690, 691, 692, 693, 694, 695, 696, 697] (by decide +kernel) (by decide +kernel)
set_option maxRecDepth 20000 in
theorem gL_law_X4_quantity : GoodIn wsL_law (wsV RL 145 RX4 yX4_quantity wsX4_quantity) := goodIn_app (goodIn_of _ (by decide +kernel)) ggL_law_X4_quantity
set_option maxRecDepth 20000 in
theorem ggL_law_L_sum : GoodIn wsL_law wsL_sum := goodIn_ca (goodIn_r _ [546, 135, 547, 548, 549, 2, 550, 21, 429, 425, 426, 427, 428, 142, 143, 290, 291, 292, 19, 293, 294, 295, 296, 297, 298, 299, 300, 301, 302, 303, 304, 305, 306, 307, 308, 309, 310, 37, 551, 552, 553, 436, 554, 446, 555, 556, 557, 558, 559, 514, 560, 561, 173, 562, 526, 527, 528, 529, 530, 447, 531, 532, 533, 395, 396, 397, 398, 399, 23, 400, 401, 665, 666, 667, 668, 669, 670, 671, 710, 711, 712, 716, 717, 718, 719, 720, 721, 713, 714, 715] (by decide +kernel) (by decide +kernel)) (goodIn_sub (fun _ h => List.mem_append_right _ h) (by decide +kernel))
set_option maxRecDepth 20000 in
theorem gL_law_L_sum : GoodIn wsL_law (va_wsS RL 146 yL_sum wsL_sum) := goodIn_app (goodIn_of _ (by decide +kernel)) ggL_law_L_sum
set_option maxRecDepth 20000 in
theorem ggL_law_X4_sum : GoodIn wsL_law wsX4_sum := goodIn_r _ [566, 64, 453, 454, 455, 5, 456, 452, 119, 120, 121, 122, 123, 124, 125, 126, 567, 568, 569, 570, 62, 59, 58, 461, 462, 463, 464, 538, 539, 540, 541, 61, 60, 542, 543, 410, 411, 412, 413, 56, 57, 672, 673, 674, 675, 676, 677, 678, 679, 680, 681, 682, 683, 684, 685, 686, 687, 688, 689, 690, 691, 692, 693, 694, 695, 696, 697] (by decide +kernel) (by decide +kernel)
set_option maxRecDepth 20000 in
theorem gL_law_X4_sum : GoodIn wsL_law (wsV RL 148 RX4 yX4_sum wsX4_sum) := goodIn_app (goodIn_of _ (by decide +kernel)) ggL_law_X4_sum
set_option maxRecDepth 20000 in
theorem ggL_law_X3_total : GoodIn wsL_law wsX3_total := goodIn_r _ [574, 21, 429, 290, 291, 292, 19, 293, 294, 295, 296, 297, 298, 299, 300, 301, 302, 303, 304, 305, 306, 307, 308, 309, 310, 37, 555, 556, 557, 2, 558, 559, 514, 560, 561, 173, 562, 526, 527, 528, 436, 529, 530, 447, 531, 532, 533, 395, 396, 397, 398, 399, 23, 400, 401, 665, 666, 667, 668, 669, 670, 671, 710, 711, 712, 716, 717, 718, 719, 720, 721, 713, 714, 715] (by decide +kernel) (by decide +kernel)
set_option maxRecDepth 20000 in
theorem gL_law_X3_total : GoodIn wsL_law (wsV RL 149 RX3 yX3_total wsX3_total) := goodIn_app (goodIn_of _ (by decide +kernel)) ggL_law_X3_total
set_option maxRecDepth 20000 in
theorem ggL_law_X4_total : GoodIn wsL_law wsX4_total := goodIn_r _ [578, 126, 452, 64, 567, 568, 569, 5, 570, 62, 59, 58, 461, 462, 463, 464, 538, 539, 540, 541, 61, 60, 542, 543, 410, 411, 412, 413, 56, 57, 672, 673, 674, 675, 676, 677, 678, 679, 680, 681, 682, 683, 684, 685, 686, 687, 688, 689, 690, 691, 692, 693, 694, 695, 696, 697] (by decide +kernel) (by decide +kernel)
set_option maxRecDepth 20000 in
theorem gL_law_X4_total : GoodIn wsL_law (wsV RL 152 RX4 yX4_total wsX4_total) := goodIn_app (goodIn_of _ (by decide +kernel)) ggL_law_X4_total
set_option maxRecDepth 20000 in
theorem ggL_law_L_dearest : GoodIn wsL_law wsL_dearest := goodIn_ca (goodIn_r _ [581, 135, 582, 583, 584, 2, 585, 586, 21, 429, 425, 426, 427, 428, 142, 143, 290, 291, 292, 19, 293, 294, 295, 296, 297, 298, 299, 300, 301, 302, 303, 304, 305, 306, 307, 308, 309, 310, 37, 437, 438, 439, 436, 440, 441, 551, 552, 553, 554, 446, 555, 556, 557, 558, 559, 514, 560, 561, 173, 562, 526, 527, 528, 529, 530, 447, 531, 532, 533, 395, 396, 397, 398, 399, 23, 400, 401, 665, 666, 667, 668, 669, 670, 671, 710, 711, 712, 716, 717, 718, 719, 720, 721, 713, 714, 715] (by decide +kernel) (by decide +kernel)) (goodIn_sub (fun _ h => List.mem_append_right _ h) (by decide +kernel))
set_option maxRecDepth 20000 in
theorem gL_law_L_dearest : GoodIn wsL_law (va_wsS RL 153 yL_dearest wsL_dearest) := goodIn_app (goodIn_of _ (by decide +kernel)) ggL_law_L_dearest
set_option maxRecDepth 20000 in
theorem ggL_law_X4_dearest : GoodIn wsL_law wsX4_dearest := goodIn_r _ [590, 452, 64, 453, 454, 455, 5, 456, 119, 120, 121, 122, 123, 124, 125, 126, 567, 568, 569, 570, 62, 59, 58, 461, 462, 463, 464, 538, 539, 540, 541, 61, 60, 542, 543, 410, 411, 412, 413, 56, 57, 591, 592, 593, 594, 672, 673, 674, 675, 676, 677, 678, 679, 680, 681, 682, 683, 684, 685, 686, 687, 688, 689, 690, 691, 692, 693, 694, 695, 696, 697] (by decide +kernel) (by decide +kernel)
set_option maxRecDepth 20000 in
theorem gL_law_X4_dearest : GoodIn wsL_law (wsV RL 155 RX4 yX4_dearest wsX4_dearest) := goodIn_app (goodIn_of _ (by decide +kernel)) ggL_law_X4_dearest
set_option maxRecDepth 20000 in
theorem ggL_law_L_done : GoodIn wsL_law wsL_done := goodIn_ca (goodIn_ca (goodIn_ca (goodIn_r _ [597, 135, 70, 134, 598, 599, 600, 2, 601, 602, 425, 426, 427, 428, 142, 143, 21, 429, 290, 291, 292, 19, 293, 294, 295, 296, 297, 298, 299, 300, 301, 302, 303, 304, 305, 306, 307, 308, 309, 310, 37, 75, 76, 77, 78, 79, 496, 497, 498, 140, 141, 437, 438, 439, 436, 440, 441, 716, 717, 718, 719, 720, 721, 665, 666, 667, 668, 669, 670, 671, 710, 711, 712] (by decide +kernel) (by decide +kernel)) (goodIn_sub (fun _ h => List.mem_append_right _ h) (by decide +kernel))) (goodIn_sub (fun _ h => List.mem_append_left _ (List.mem_append_left _ (List.mem_append_right _ h))) (by decide +kernel))) (goodIn_sub (fun _ h => List.mem_append_left _ (List.mem_append_right _ h)) (by decide +kernel))
set_option maxRecDepth 20000 in
theorem gL_law_L_done : GoodIn wsL_law (va_wsS RL 156 yL_done wsL_done) := goodIn_app (goodIn_of _ (by decide +kernel)) ggL_law_L_done
set_option maxRecDepth 20000 in
theorem ggL_law_X4_done : GoodIn wsL_law wsX4_done := goodIn_r _ [606, 63, 453, 454, 455, 5, 456, 452, 119, 120, 121, 461, 462, 463, 464, 59, 122, 123, 124, 125, 126, 672, 673, 674, 675, 676, 677, 678, 679, 680, 681, 682, 683, 684, 685, 686, 687, 688, 689, 690, 691, 692, 693, 694, 695, 696, 697] (by decide +kernel) (by decide +kernel)
set_option maxRecDepth 20000 in
theorem gL_law_X4_done : GoodIn wsL_law (wsV RL 158 RX4 yX4_done wsX4_done) := goodIn_app (goodIn_of _ (by decide +kernel)) ggL_law_X4_done
set_option maxRecDepth 20000 in
theorem ggL_law_L_retention : GoodIn wsL_law wsL_retention := goodIn_ca (goodIn_r _ [609, 70, 610, 611, 612, 2, 613, 25, 75, 76, 77, 78, 79, 665, 666, 667, 668, 669, 670, 671] (by decide +kernel) (by decide +kernel)) (goodIn_sub (fun _ h => List.mem_append_left _ (List.mem_append_left _ (List.mem_append_right _ h))) (by decide +kernel))
set_option maxRecDepth 20000 in
theorem gL_law_L_retention : GoodIn wsL_law (va_wsS RL 159 yL_retention wsL_retention) := goodIn_app (goodIn_of _ (by decide +kernel)) ggL_law_L_retention
set_option maxRecDepth 20000 in
theorem ggL_law_X4_retention : GoodIn wsL_law wsX4_retention := goodIn_r _ [617, 65, 119, 120, 5, 121, 122, 123, 124, 125, 126, 672, 673, 674, 675, 676, 677, 678, 679, 680, 681, 682, 683, 684, 685, 686, 687, 688, 689, 690, 691, 692, 693, 694, 695, 696, 697] (by decide +kernel) (by decide +kernel)
set_option maxRecDepth 20000 in
theorem gL_law_X4_retention : GoodIn wsL_law (wsV RL 161 RX4 yX4_retention wsX4_retention) := goodIn_app (goodIn_of _ (by decide +kernel)) ggL_law_X4_retention
set_option maxRecDepth 20000 in
theorem ggL_law_X3_worth : GoodIn wsL_law wsX3_worth := goodIn_r _ [621, 21, 429, 602, 533, 290, 291, 292, 19, 293, 294, 295, 296, 297, 298, 299, 300, 301, 302, 303, 304, 305, 306, 307, 308, 309, 310, 37, 555, 556, 557, 2, 558, 559, 514, 560, 561, 173, 562, 526, 527, 528, 436, 529, 530, 447, 531, 532, 395, 396, 397, 398, 399, 23, 400, 401, 665, 666, 667, 668, 669, 670, 671, 716, 717, 718, 719, 720, 721, 710, 711, 712, 713, 714, 715] (by decide +kernel) (by decide +kernel)
set_option maxRecDepth 20000 in
theorem gL_law_X3_worth : GoodIn wsL_law (wsV RL 162 RX3 yX3_worth wsX3_worth) := goodIn_app (goodIn_of _ (by decide +kernel)) ggL_law_X3_worth
set_option maxRecDepth 20000 in
theorem ggL_law_X4_worth : GoodIn wsL_law wsX4_worth := goodIn_r _ [625, 126, 626, 627, 628, 5, 629, 452, 64, 63, 543, 567, 568, 569, 570, 62, 59, 58, 461, 462, 463, 464, 538, 539, 540, 541, 61, 60, 542, 410, 411, 412, 413, 56, 57, 672, 673, 674, 675, 676, 677, 678, 679, 680, 681, 682, 683, 684, 685, 686, 687, 688, 689, 690, 691, 692, 693, 694, 695, 696, 697] (by decide +kernel) (by decide +kernel)
set_option maxRecDepth 20000 in
theorem gL_law_X4_worth : GoodIn wsL_law (wsV RL 165 RX4 yX4_worth wsX4_worth) := goodIn_app (goodIn_of _ (by decide +kernel)) ggL_law_X4_worth
set_option maxRecDepth 20000 in
theorem ggL_law_X3_due : GoodIn wsL_law wsX3_due := goodIn_r _ [633, 25, 634, 619, 620, 2, 621, 21, 429, 602, 533, 290, 291, 292, 19, 293, 294, 295, 296, 297, 298, 299, 300, 301, 302, 303, 304, 305, 306, 307, 308, 309, 310, 37, 555, 556, 557, 558, 559, 514, 560, 561, 173, 562, 526, 527, 528, 436, 529, 530, 447, 531, 532, 395, 396, 397, 398, 399, 23, 400, 401, 635, 665, 666, 667, 668, 669, 670, 671, 716, 717, 718, 719, 720, 721, 710, 711, 712, 713, 714, 715] (by decide +kernel) (by decide +kernel)
set_option maxRecDepth 20000 in
theorem gL_law_X3_due : GoodIn wsL_law (wsV RL 166 RX3 yX3_due wsX3_due) := goodIn_app (goodIn_of _ (by decide +kernel)) ggL_law_X3_due
set_option maxRecDepth 20000 in
theorem ggL_law_X4_due : GoodIn wsL_law wsX4_due := goodIn_r _ [639, 126, 640, 641, 642, 5, 643, 65, 542, 543, 626, 627, 628, 629, 452, 64, 63, 567, 568, 569, 570, 62, 59, 58, 461, 462, 463, 464, 538, 539, 540, 541, 61, 60, 410, 411, 412, 413, 56, 57, 672, 673, 674, 675, 676, 677, 678, 679, 680, 681, 682, 683, 684, 685, 686, 687, 688, 689, 690, 691, 692, 693, 694, 695, 696, 697] (by decide +kernel) (by decide +kernel)
set_option maxRecDepth 20000 in
theorem gL_law_X4_due : GoodIn wsL_law (wsV RL 169 RX4 yX4_due wsX4_due) := goodIn_app (goodIn_of _ (by decide +kernel)) ggL_law_X4_due
set_option maxRecDepth 20000 in
theorem ggL_law_L_claim : GoodIn wsL_law wsL_claim := goodIn_ca (goodIn_r _ [646, 134, 647, 648, 649, 2, 650, 140, 141, 26, 651, 631, 632, 633, 25, 634, 619, 620, 621, 21, 429, 602, 533, 290, 291, 292, 19, 293, 294, 295, 296, 297, 298, 299, 300, 301, 302, 303, 304, 305, 306, 307, 308, 309, 310, 37, 555, 556, 557, 558, 559, 514, 560, 561, 173, 562, 526, 527, 528, 436, 529, 530, 447, 531, 532, 395, 396, 397, 398, 399, 23, 400, 401, 635, 665, 666, 667, 668, 669, 670, 671, 716, 717, 718, 719, 720, 721, 710, 711, 712, 713, 714, 715] (by decide +kernel) (by decide +kernel)) (goodIn_sub (fun _ h => List.mem_append_left _ (List.mem_append_right _ h)) (by decide +kernel))
set_option maxRecDepth 20000 in
theorem gL_law_L_claim : GoodIn wsL_law (va_wsS RL 170 yL_claim wsL_claim) := goodIn_app (goodIn_of _ (by decide +kernel)) ggL_law_L_claim
set_option maxRecDepth 20000 in
theorem ggL_law_X4_claim : GoodIn wsL_law wsX4_claim := goodIn_r _ [655, 656, 640, 641, 642, 5, 643, 65, 542, 543, 626, 627, 628, 629, 452, 64, 63, 567, 568, 569, 570, 62, 59, 58, 461, 462, 463, 464, 538, 539, 540, 541, 61, 60, 410, 411, 412, 413, 56, 57, 122, 123, 124, 125, 126, 672, 673, 674, 675, 676, 677, 678, 679, 680, 681, 682, 683, 684, 685, 686, 687, 688, 689, 690, 691, 692, 693, 694, 695, 696, 697] (by decide +kernel) (by decide +kernel)
set_option maxRecDepth 20000 in
theorem gL_law_X4_claim : GoodIn wsL_law (wsV RL 172 RX4 yX4_claim wsX4_claim) := goodIn_app (goodIn_of _ (by decide +kernel)) ggL_law_X4_claim
set_option maxRecDepth 20000 in
theorem ggL_law_X3_claimed : GoodIn wsL_law wsX3_claimed := goodIn_r _ [660, 26, 665, 666, 667, 668, 669, 670, 671] (by decide +kernel) (by decide +kernel)
set_option maxRecDepth 20000 in
theorem gL_law_X3_claimed : GoodIn wsL_law (wsV RL 173 RX3 yX3_claimed wsX3_claimed) := goodIn_app (goodIn_of _ (by decide +kernel)) ggL_law_X3_claimed
set_option maxRecDepth 20000 in
theorem ggL_law_X4_claimed : GoodIn wsL_law wsX4_claimed := goodIn_r _ [664, 126, 656, 672, 673, 674, 675, 676, 677, 678, 679, 680, 681, 682, 683, 684, 685, 686, 687, 688, 689, 690, 691, 692, 693, 694, 695, 696, 697] (by decide +kernel) (by decide +kernel)
set_option maxRecDepth 20000 in
theorem gL_law_X4_claimed : GoodIn wsL_law (wsV RL 176 RX4 yX4_claimed wsX4_claimed) := goodIn_app (goodIn_of _ (by decide +kernel)) ggL_law_X4_claimed
theorem dL_law_0 : decode cL_law 0 = .ok (.new 8, 3) := by decide +kernel
theorem dL_law_3 : decode cL_law 3 = .ok (.dup, 1) := by decide +kernel
theorem dL_law_4 : decode cL_law 4 = .ok (.invokespecial 83, 3) := by decide +kernel
theorem dL_law_7 : decode cL_law 7 = .ok (.astore_n 1, 1) := by decide +kernel
theorem dL_law_8 : decode cL_law 8 = .ok (.new 84, 3) := by decide +kernel
theorem dL_law_11 : decode cL_law 11 = .ok (.dup, 1) := by decide +kernel
theorem dL_law_12 : decode cL_law 12 = .ok (.invokespecial 86, 3) := by decide +kernel
theorem dL_law_15 : decode cL_law 15 = .ok (.astore_n 2, 1) := by decide +kernel
theorem dL_law_16 : decode cL_law 16 = .ok (.iconst 1, 1) := by decide +kernel
theorem dL_law_17 : decode cL_law 17 = .ok (.newarray .long, 2) := by decide +kernel
theorem dL_law_19 : decode cL_law 19 = .ok (.astore_n 3, 1) := by decide +kernel
theorem dL_law_20 : decode cL_law 20 = .ok (.iconst 0, 1) := by decide +kernel
theorem dL_law_21 : decode cL_law 21 = .ok (.istore 4, 2) := by decide +kernel
theorem dL_law_23 : decode cL_law 23 = .ok (.iload 4, 2) := by decide +kernel
theorem dL_law_25 : decode cL_law 25 = .ok (.aload_n 0, 1) := by decide +kernel
theorem dL_law_26 : decode cL_law 26 = .ok (.arraylength, 1) := by decide +kernel
theorem dL_law_27 : decode cL_law 27 = .ok (.iconst 4, 1) := by decide +kernel
theorem dL_law_28 : decode cL_law 28 = .ok (.isub, 1) := by decide +kernel
theorem dL_law_29 : decode cL_law 29 = .ok (.if_icmp .gt 1387, 3) := by decide +kernel
theorem dL_law_32 : decode cL_law 32 = .ok (.aload_n 0, 1) := by decide +kernel
theorem dL_law_33 : decode cL_law 33 = .ok (.iload 4, 2) := by decide +kernel
theorem dL_law_35 : decode cL_law 35 = .ok (.iaload, 1) := by decide +kernel
theorem dL_law_36 : decode cL_law 36 = .ok (.bipush 31, 2) := by decide +kernel
theorem dL_law_38 : decode cL_law 38 = .ok (.iand, 1) := by decide +kernel
theorem dL_law_39 : decode cL_law 39 = .ok (.tableswitch 1371 0 24 #[113, 161, 236, 304, 360, 404, 448, 492, 572, 640, 696, 752, 832, 845, 913, 981, 1037, 1092, 1106, 1162, 1230, 1286, 1300, 1314, 1357], 113) := by decide +kernel
theorem dL_law_152 : decode cL_law 152 = .ok (.aload_n 1, 1) := by decide +kernel
theorem dL_law_153 : decode cL_law 153 = .ok (.aload_n 0, 1) := by decide +kernel
theorem dL_law_154 : decode cL_law 154 = .ok (.iload 4, 2) := by decide +kernel
theorem dL_law_156 : decode cL_law 156 = .ok (.iconst 1, 1) := by decide +kernel
theorem dL_law_157 : decode cL_law 157 = .ok (.iadd, 1) := by decide +kernel
theorem dL_law_158 : decode cL_law 158 = .ok (.iaload, 1) := by decide +kernel
theorem dL_law_159 : decode cL_law 159 = .ok (.aload_n 0, 1) := by decide +kernel
theorem dL_law_160 : decode cL_law 160 = .ok (.iload 4, 2) := by decide +kernel
theorem dL_law_162 : decode cL_law 162 = .ok (.iconst 2, 1) := by decide +kernel
theorem dL_law_163 : decode cL_law 163 = .ok (.iadd, 1) := by decide +kernel
theorem dL_law_164 : decode cL_law 164 = .ok (.iaload, 1) := by decide +kernel
theorem dL_law_165 : decode cL_law 165 = .ok (.invokestatic 87, 3) := by decide +kernel
theorem dL_law_168 : decode cL_law 168 = .ok (.istore 5, 2) := by decide +kernel
theorem dL_law_170 : decode cL_law 170 = .ok (.aload_n 2, 1) := by decide +kernel
theorem dL_law_171 : decode cL_law 171 = .ok (.aload_n 0, 1) := by decide +kernel
theorem dL_law_172 : decode cL_law 172 = .ok (.iload 4, 2) := by decide +kernel
theorem dL_law_174 : decode cL_law 174 = .ok (.iconst 1, 1) := by decide +kernel
theorem dL_law_175 : decode cL_law 175 = .ok (.iadd, 1) := by decide +kernel
theorem dL_law_176 : decode cL_law 176 = .ok (.iaload, 1) := by decide +kernel
theorem dL_law_177 : decode cL_law 177 = .ok (.aload_n 0, 1) := by decide +kernel
theorem dL_law_178 : decode cL_law 178 = .ok (.iload 4, 2) := by decide +kernel
theorem dL_law_180 : decode cL_law 180 = .ok (.iconst 2, 1) := by decide +kernel
theorem dL_law_181 : decode cL_law 181 = .ok (.iadd, 1) := by decide +kernel
theorem dL_law_182 : decode cL_law 182 = .ok (.iaload, 1) := by decide +kernel
theorem dL_law_183 : decode cL_law 183 = .ok (.invokevirtual 92, 3) := by decide +kernel
theorem dL_law_186 : decode cL_law 186 = .ok (.aload_n 2, 1) := by decide +kernel
theorem dL_law_187 : decode cL_law 187 = .ok (.invokevirtual 93, 3) := by decide +kernel
theorem dL_law_190 : decode cL_law 190 = .ok (.iload 5, 2) := by decide +kernel
theorem dL_law_192 : decode cL_law 192 = .ok (.if_icmp .eq 5, 3) := by decide +kernel
theorem dL_law_195 : decode cL_law 195 = .ok (.iconst 0, 1) := by decide +kernel
theorem dL_law_196 : decode cL_law 196 = .ok (.ireturn, 1) := by decide +kernel
theorem dL_law_197 : decode cL_law 197 = .ok (.goto 1213, 3) := by decide +kernel
theorem dL_law_200 : decode cL_law 200 = .ok (.aload_n 1, 1) := by decide +kernel
theorem dL_law_201 : decode cL_law 201 = .ok (.aload_n 0, 1) := by decide +kernel
theorem dL_law_202 : decode cL_law 202 = .ok (.iload 4, 2) := by decide +kernel
theorem dL_law_204 : decode cL_law 204 = .ok (.iconst 1, 1) := by decide +kernel
theorem dL_law_205 : decode cL_law 205 = .ok (.iadd, 1) := by decide +kernel
theorem dL_law_206 : decode cL_law 206 = .ok (.iaload, 1) := by decide +kernel
theorem dL_law_207 : decode cL_law 207 = .ok (.aload_n 0, 1) := by decide +kernel
theorem dL_law_208 : decode cL_law 208 = .ok (.iload 4, 2) := by decide +kernel
theorem dL_law_210 : decode cL_law 210 = .ok (.iconst 2, 1) := by decide +kernel
theorem dL_law_211 : decode cL_law 211 = .ok (.iadd, 1) := by decide +kernel
theorem dL_law_212 : decode cL_law 212 = .ok (.iaload, 1) := by decide +kernel
theorem dL_law_213 : decode cL_law 213 = .ok (.aload_n 3, 1) := by decide +kernel
theorem dL_law_214 : decode cL_law 214 = .ok (.invokestatic 96, 3) := by decide +kernel
theorem dL_law_217 : decode cL_law 217 = .ok (.istore 5, 2) := by decide +kernel
theorem dL_law_219 : decode cL_law 219 = .ok (.aload_n 2, 1) := by decide +kernel
theorem dL_law_220 : decode cL_law 220 = .ok (.aload_n 0, 1) := by decide +kernel
theorem dL_law_221 : decode cL_law 221 = .ok (.iload 4, 2) := by decide +kernel
theorem dL_law_223 : decode cL_law 223 = .ok (.iconst 1, 1) := by decide +kernel
theorem dL_law_224 : decode cL_law 224 = .ok (.iadd, 1) := by decide +kernel
theorem dL_law_225 : decode cL_law 225 = .ok (.iaload, 1) := by decide +kernel
theorem dL_law_226 : decode cL_law 226 = .ok (.aload_n 0, 1) := by decide +kernel
theorem dL_law_227 : decode cL_law 227 = .ok (.iload 4, 2) := by decide +kernel
theorem dL_law_229 : decode cL_law 229 = .ok (.iconst 2, 1) := by decide +kernel
theorem dL_law_230 : decode cL_law 230 = .ok (.iadd, 1) := by decide +kernel
theorem dL_law_231 : decode cL_law 231 = .ok (.iaload, 1) := by decide +kernel
theorem dL_law_232 : decode cL_law 232 = .ok (.invokevirtual 99, 3) := by decide +kernel
theorem dL_law_235 : decode cL_law 235 = .ok (.istore 6, 2) := by decide +kernel
theorem dL_law_237 : decode cL_law 237 = .ok (.aload_n 2, 1) := by decide +kernel
theorem dL_law_238 : decode cL_law 238 = .ok (.invokevirtual 93, 3) := by decide +kernel
theorem dL_law_241 : decode cL_law 241 = .ok (.iload 5, 2) := by decide +kernel
theorem dL_law_243 : decode cL_law 243 = .ok (.if_icmp .eq 5, 3) := by decide +kernel
theorem dL_law_246 : decode cL_law 246 = .ok (.iconst 0, 1) := by decide +kernel
theorem dL_law_247 : decode cL_law 247 = .ok (.ireturn, 1) := by decide +kernel
theorem dL_law_248 : decode cL_law 248 = .ok (.iload 5, 2) := by decide +kernel
theorem dL_law_250 : decode cL_law 250 = .ok (.ifCond .ne 22, 3) := by decide +kernel
theorem dL_law_253 : decode cL_law 253 = .ok (.aload_n 3, 1) := by decide +kernel
theorem dL_law_254 : decode cL_law 254 = .ok (.iconst 0, 1) := by decide +kernel
theorem dL_law_255 : decode cL_law 255 = .ok (.laload, 1) := by decide +kernel
theorem dL_law_256 : decode cL_law 256 = .ok (.iload 6, 2) := by decide +kernel
theorem dL_law_258 : decode cL_law 258 = .ok (.ifCond .eq 7, 3) := by decide +kernel
theorem dL_law_261 : decode cL_law 261 = .ok (.lconst 1, 1) := by decide +kernel
theorem dL_law_262 : decode cL_law 262 = .ok (.goto 4, 3) := by decide +kernel
theorem dL_law_265 : decode cL_law 265 = .ok (.lconst 0, 1) := by decide +kernel
theorem dL_law_266 : decode cL_law 266 = .ok (.lcmp, 1) := by decide +kernel
theorem dL_law_267 : decode cL_law 267 = .ok (.ifCond .eq 5, 3) := by decide +kernel
theorem dL_law_270 : decode cL_law 270 = .ok (.iconst 0, 1) := by decide +kernel
theorem dL_law_271 : decode cL_law 271 = .ok (.ireturn, 1) := by decide +kernel
theorem dL_law_272 : decode cL_law 272 = .ok (.goto 1138, 3) := by decide +kernel
theorem dL_law_275 : decode cL_law 275 = .ok (.aload_n 1, 1) := by decide +kernel
theorem dL_law_276 : decode cL_law 276 = .ok (.aload_n 0, 1) := by decide +kernel
theorem dL_law_277 : decode cL_law 277 = .ok (.iload 4, 2) := by decide +kernel
theorem dL_law_279 : decode cL_law 279 = .ok (.iconst 1, 1) := by decide +kernel
theorem dL_law_280 : decode cL_law 280 = .ok (.iadd, 1) := by decide +kernel
theorem dL_law_281 : decode cL_law 281 = .ok (.iaload, 1) := by decide +kernel
theorem dL_law_282 : decode cL_law 282 = .ok (.aload_n 0, 1) := by decide +kernel
theorem dL_law_283 : decode cL_law 283 = .ok (.iload 4, 2) := by decide +kernel
theorem dL_law_285 : decode cL_law 285 = .ok (.iconst 2, 1) := by decide +kernel
theorem dL_law_286 : decode cL_law 286 = .ok (.iadd, 1) := by decide +kernel
theorem dL_law_287 : decode cL_law 287 = .ok (.iaload, 1) := by decide +kernel
theorem dL_law_288 : decode cL_law 288 = .ok (.aload_n 3, 1) := by decide +kernel
theorem dL_law_289 : decode cL_law 289 = .ok (.invokestatic 100, 3) := by decide +kernel
theorem dL_law_292 : decode cL_law 292 = .ok (.istore 5, 2) := by decide +kernel
theorem dL_law_294 : decode cL_law 294 = .ok (.aload_n 2, 1) := by decide +kernel
theorem dL_law_295 : decode cL_law 295 = .ok (.aload_n 0, 1) := by decide +kernel
theorem dL_law_296 : decode cL_law 296 = .ok (.iload 4, 2) := by decide +kernel
theorem dL_law_298 : decode cL_law 298 = .ok (.iconst 1, 1) := by decide +kernel
theorem dL_law_299 : decode cL_law 299 = .ok (.iadd, 1) := by decide +kernel
theorem dL_law_300 : decode cL_law 300 = .ok (.iaload, 1) := by decide +kernel
theorem dL_law_301 : decode cL_law 301 = .ok (.aload_n 0, 1) := by decide +kernel
theorem dL_law_302 : decode cL_law 302 = .ok (.iload 4, 2) := by decide +kernel
theorem dL_law_304 : decode cL_law 304 = .ok (.iconst 2, 1) := by decide +kernel
theorem dL_law_305 : decode cL_law 305 = .ok (.iadd, 1) := by decide +kernel
theorem dL_law_306 : decode cL_law 306 = .ok (.iaload, 1) := by decide +kernel
theorem dL_law_307 : decode cL_law 307 = .ok (.invokevirtual 102, 3) := by decide +kernel
theorem dL_law_310 : decode cL_law 310 = .ok (.istore 6, 2) := by decide +kernel
theorem dL_law_312 : decode cL_law 312 = .ok (.aload_n 2, 1) := by decide +kernel
theorem dL_law_313 : decode cL_law 313 = .ok (.invokevirtual 93, 3) := by decide +kernel
theorem dL_law_316 : decode cL_law 316 = .ok (.iload 5, 2) := by decide +kernel
theorem dL_law_318 : decode cL_law 318 = .ok (.if_icmp .eq 5, 3) := by decide +kernel
theorem dL_law_321 : decode cL_law 321 = .ok (.iconst 0, 1) := by decide +kernel
theorem dL_law_322 : decode cL_law 322 = .ok (.ireturn, 1) := by decide +kernel
theorem dL_law_323 : decode cL_law 323 = .ok (.iload 5, 2) := by decide +kernel
theorem dL_law_325 : decode cL_law 325 = .ok (.ifCond .ne 15, 3) := by decide +kernel
theorem dL_law_328 : decode cL_law 328 = .ok (.aload_n 3, 1) := by decide +kernel
theorem dL_law_329 : decode cL_law 329 = .ok (.iconst 0, 1) := by decide +kernel
theorem dL_law_330 : decode cL_law 330 = .ok (.laload, 1) := by decide +kernel
theorem dL_law_331 : decode cL_law 331 = .ok (.iload 6, 2) := by decide +kernel
theorem dL_law_333 : decode cL_law 333 = .ok (.i2l, 1) := by decide +kernel
theorem dL_law_334 : decode cL_law 334 = .ok (.lcmp, 1) := by decide +kernel
theorem dL_law_335 : decode cL_law 335 = .ok (.ifCond .eq 5, 3) := by decide +kernel
theorem dL_law_338 : decode cL_law 338 = .ok (.iconst 0, 1) := by decide +kernel
theorem dL_law_339 : decode cL_law 339 = .ok (.ireturn, 1) := by decide +kernel
theorem dL_law_340 : decode cL_law 340 = .ok (.goto 1070, 3) := by decide +kernel
theorem dL_law_343 : decode cL_law 343 = .ok (.aload_n 1, 1) := by decide +kernel
theorem dL_law_344 : decode cL_law 344 = .ok (.aload_n 0, 1) := by decide +kernel
theorem dL_law_345 : decode cL_law 345 = .ok (.iload 4, 2) := by decide +kernel
theorem dL_law_347 : decode cL_law 347 = .ok (.iconst 1, 1) := by decide +kernel
theorem dL_law_348 : decode cL_law 348 = .ok (.iadd, 1) := by decide +kernel
theorem dL_law_349 : decode cL_law 349 = .ok (.iaload, 1) := by decide +kernel
theorem dL_law_350 : decode cL_law 350 = .ok (.aload_n 3, 1) := by decide +kernel
theorem dL_law_351 : decode cL_law 351 = .ok (.invokestatic 103, 3) := by decide +kernel
theorem dL_law_354 : decode cL_law 354 = .ok (.istore 5, 2) := by decide +kernel
theorem dL_law_356 : decode cL_law 356 = .ok (.aload_n 2, 1) := by decide +kernel
theorem dL_law_357 : decode cL_law 357 = .ok (.aload_n 0, 1) := by decide +kernel
theorem dL_law_358 : decode cL_law 358 = .ok (.iload 4, 2) := by decide +kernel
theorem dL_law_360 : decode cL_law 360 = .ok (.iconst 1, 1) := by decide +kernel
theorem dL_law_361 : decode cL_law 361 = .ok (.iadd, 1) := by decide +kernel
theorem dL_law_362 : decode cL_law 362 = .ok (.iaload, 1) := by decide +kernel
theorem dL_law_363 : decode cL_law 363 = .ok (.invokevirtual 106, 3) := by decide +kernel
theorem dL_law_366 : decode cL_law 366 = .ok (.istore 6, 2) := by decide +kernel
theorem dL_law_368 : decode cL_law 368 = .ok (.aload_n 2, 1) := by decide +kernel
theorem dL_law_369 : decode cL_law 369 = .ok (.invokevirtual 93, 3) := by decide +kernel
theorem dL_law_372 : decode cL_law 372 = .ok (.iload 5, 2) := by decide +kernel
theorem dL_law_374 : decode cL_law 374 = .ok (.if_icmp .eq 5, 3) := by decide +kernel
theorem dL_law_377 : decode cL_law 377 = .ok (.iconst 0, 1) := by decide +kernel
theorem dL_law_378 : decode cL_law 378 = .ok (.ireturn, 1) := by decide +kernel
theorem dL_law_379 : decode cL_law 379 = .ok (.iload 5, 2) := by decide +kernel
theorem dL_law_381 : decode cL_law 381 = .ok (.ifCond .ne 15, 3) := by decide +kernel
theorem dL_law_384 : decode cL_law 384 = .ok (.aload_n 3, 1) := by decide +kernel
theorem dL_law_385 : decode cL_law 385 = .ok (.iconst 0, 1) := by decide +kernel
theorem dL_law_386 : decode cL_law 386 = .ok (.laload, 1) := by decide +kernel
theorem dL_law_387 : decode cL_law 387 = .ok (.iload 6, 2) := by decide +kernel
theorem dL_law_389 : decode cL_law 389 = .ok (.i2l, 1) := by decide +kernel
theorem dL_law_390 : decode cL_law 390 = .ok (.lcmp, 1) := by decide +kernel
theorem dL_law_391 : decode cL_law 391 = .ok (.ifCond .eq 5, 3) := by decide +kernel
theorem dL_law_394 : decode cL_law 394 = .ok (.iconst 0, 1) := by decide +kernel
theorem dL_law_395 : decode cL_law 395 = .ok (.ireturn, 1) := by decide +kernel
theorem dL_law_396 : decode cL_law 396 = .ok (.goto 1014, 3) := by decide +kernel
theorem dL_law_399 : decode cL_law 399 = .ok (.aload_n 1, 1) := by decide +kernel
theorem dL_law_400 : decode cL_law 400 = .ok (.aload_n 3, 1) := by decide +kernel
theorem dL_law_401 : decode cL_law 401 = .ok (.invokestatic 107, 3) := by decide +kernel
theorem dL_law_404 : decode cL_law 404 = .ok (.istore 5, 2) := by decide +kernel
theorem dL_law_406 : decode cL_law 406 = .ok (.aload_n 2, 1) := by decide +kernel
theorem dL_law_407 : decode cL_law 407 = .ok (.invokevirtual 110, 3) := by decide +kernel
theorem dL_law_410 : decode cL_law 410 = .ok (.istore 6, 2) := by decide +kernel
theorem dL_law_412 : decode cL_law 412 = .ok (.aload_n 2, 1) := by decide +kernel
theorem dL_law_413 : decode cL_law 413 = .ok (.invokevirtual 93, 3) := by decide +kernel
theorem dL_law_416 : decode cL_law 416 = .ok (.iload 5, 2) := by decide +kernel
theorem dL_law_418 : decode cL_law 418 = .ok (.if_icmp .eq 5, 3) := by decide +kernel
theorem dL_law_421 : decode cL_law 421 = .ok (.iconst 0, 1) := by decide +kernel
theorem dL_law_422 : decode cL_law 422 = .ok (.ireturn, 1) := by decide +kernel
theorem dL_law_423 : decode cL_law 423 = .ok (.iload 5, 2) := by decide +kernel
theorem dL_law_425 : decode cL_law 425 = .ok (.ifCond .ne 15, 3) := by decide +kernel
theorem dL_law_428 : decode cL_law 428 = .ok (.aload_n 3, 1) := by decide +kernel
theorem dL_law_429 : decode cL_law 429 = .ok (.iconst 0, 1) := by decide +kernel
theorem dL_law_430 : decode cL_law 430 = .ok (.laload, 1) := by decide +kernel
theorem dL_law_431 : decode cL_law 431 = .ok (.iload 6, 2) := by decide +kernel
theorem dL_law_433 : decode cL_law 433 = .ok (.i2l, 1) := by decide +kernel
theorem dL_law_434 : decode cL_law 434 = .ok (.lcmp, 1) := by decide +kernel
theorem dL_law_435 : decode cL_law 435 = .ok (.ifCond .eq 5, 3) := by decide +kernel
theorem dL_law_438 : decode cL_law 438 = .ok (.iconst 0, 1) := by decide +kernel
theorem dL_law_439 : decode cL_law 439 = .ok (.ireturn, 1) := by decide +kernel
theorem dL_law_440 : decode cL_law 440 = .ok (.goto 970, 3) := by decide +kernel
theorem dL_law_443 : decode cL_law 443 = .ok (.aload_n 1, 1) := by decide +kernel
theorem dL_law_444 : decode cL_law 444 = .ok (.aload_n 3, 1) := by decide +kernel
theorem dL_law_445 : decode cL_law 445 = .ok (.invokestatic 111, 3) := by decide +kernel
theorem dL_law_448 : decode cL_law 448 = .ok (.istore 5, 2) := by decide +kernel
theorem dL_law_450 : decode cL_law 450 = .ok (.aload_n 2, 1) := by decide +kernel
theorem dL_law_451 : decode cL_law 451 = .ok (.invokevirtual 113, 3) := by decide +kernel
theorem dL_law_454 : decode cL_law 454 = .ok (.istore 6, 2) := by decide +kernel
theorem dL_law_456 : decode cL_law 456 = .ok (.aload_n 2, 1) := by decide +kernel
theorem dL_law_457 : decode cL_law 457 = .ok (.invokevirtual 93, 3) := by decide +kernel
theorem dL_law_460 : decode cL_law 460 = .ok (.iload 5, 2) := by decide +kernel
theorem dL_law_462 : decode cL_law 462 = .ok (.if_icmp .eq 5, 3) := by decide +kernel
theorem dL_law_465 : decode cL_law 465 = .ok (.iconst 0, 1) := by decide +kernel
theorem dL_law_466 : decode cL_law 466 = .ok (.ireturn, 1) := by decide +kernel
theorem dL_law_467 : decode cL_law 467 = .ok (.iload 5, 2) := by decide +kernel
theorem dL_law_469 : decode cL_law 469 = .ok (.ifCond .ne 15, 3) := by decide +kernel
theorem dL_law_472 : decode cL_law 472 = .ok (.aload_n 3, 1) := by decide +kernel
theorem dL_law_473 : decode cL_law 473 = .ok (.iconst 0, 1) := by decide +kernel
theorem dL_law_474 : decode cL_law 474 = .ok (.laload, 1) := by decide +kernel
theorem dL_law_475 : decode cL_law 475 = .ok (.iload 6, 2) := by decide +kernel
theorem dL_law_477 : decode cL_law 477 = .ok (.i2l, 1) := by decide +kernel
theorem dL_law_478 : decode cL_law 478 = .ok (.lcmp, 1) := by decide +kernel
theorem dL_law_479 : decode cL_law 479 = .ok (.ifCond .eq 5, 3) := by decide +kernel
theorem dL_law_482 : decode cL_law 482 = .ok (.iconst 0, 1) := by decide +kernel
theorem dL_law_483 : decode cL_law 483 = .ok (.ireturn, 1) := by decide +kernel
theorem dL_law_484 : decode cL_law 484 = .ok (.goto 926, 3) := by decide +kernel
theorem dL_law_487 : decode cL_law 487 = .ok (.aload_n 1, 1) := by decide +kernel
theorem dL_law_488 : decode cL_law 488 = .ok (.aload_n 3, 1) := by decide +kernel
theorem dL_law_489 : decode cL_law 489 = .ok (.invokestatic 114, 3) := by decide +kernel
theorem dL_law_492 : decode cL_law 492 = .ok (.istore 5, 2) := by decide +kernel
theorem dL_law_494 : decode cL_law 494 = .ok (.aload_n 2, 1) := by decide +kernel
theorem dL_law_495 : decode cL_law 495 = .ok (.invokevirtual 116, 3) := by decide +kernel
theorem dL_law_498 : decode cL_law 498 = .ok (.istore 6, 2) := by decide +kernel
theorem dL_law_500 : decode cL_law 500 = .ok (.aload_n 2, 1) := by decide +kernel
theorem dL_law_501 : decode cL_law 501 = .ok (.invokevirtual 93, 3) := by decide +kernel
theorem dL_law_504 : decode cL_law 504 = .ok (.iload 5, 2) := by decide +kernel
theorem dL_law_506 : decode cL_law 506 = .ok (.if_icmp .eq 5, 3) := by decide +kernel
theorem dL_law_509 : decode cL_law 509 = .ok (.iconst 0, 1) := by decide +kernel
theorem dL_law_510 : decode cL_law 510 = .ok (.ireturn, 1) := by decide +kernel
theorem dL_law_511 : decode cL_law 511 = .ok (.iload 5, 2) := by decide +kernel
theorem dL_law_513 : decode cL_law 513 = .ok (.ifCond .ne 15, 3) := by decide +kernel
theorem dL_law_516 : decode cL_law 516 = .ok (.aload_n 3, 1) := by decide +kernel
theorem dL_law_517 : decode cL_law 517 = .ok (.iconst 0, 1) := by decide +kernel
theorem dL_law_518 : decode cL_law 518 = .ok (.laload, 1) := by decide +kernel
theorem dL_law_519 : decode cL_law 519 = .ok (.iload 6, 2) := by decide +kernel
theorem dL_law_521 : decode cL_law 521 = .ok (.i2l, 1) := by decide +kernel
theorem dL_law_522 : decode cL_law 522 = .ok (.lcmp, 1) := by decide +kernel
theorem dL_law_523 : decode cL_law 523 = .ok (.ifCond .eq 5, 3) := by decide +kernel
theorem dL_law_526 : decode cL_law 526 = .ok (.iconst 0, 1) := by decide +kernel
theorem dL_law_527 : decode cL_law 527 = .ok (.ireturn, 1) := by decide +kernel
theorem dL_law_528 : decode cL_law 528 = .ok (.goto 882, 3) := by decide +kernel
theorem dL_law_531 : decode cL_law 531 = .ok (.aload_n 1, 1) := by decide +kernel
theorem dL_law_532 : decode cL_law 532 = .ok (.aload_n 0, 1) := by decide +kernel
theorem dL_law_533 : decode cL_law 533 = .ok (.iload 4, 2) := by decide +kernel
theorem dL_law_535 : decode cL_law 535 = .ok (.iconst 1, 1) := by decide +kernel
theorem dL_law_536 : decode cL_law 536 = .ok (.iadd, 1) := by decide +kernel
theorem dL_law_537 : decode cL_law 537 = .ok (.iaload, 1) := by decide +kernel
theorem dL_law_538 : decode cL_law 538 = .ok (.aload_n 0, 1) := by decide +kernel
theorem dL_law_539 : decode cL_law 539 = .ok (.iload 4, 2) := by decide +kernel
theorem dL_law_541 : decode cL_law 541 = .ok (.iconst 2, 1) := by decide +kernel
theorem dL_law_542 : decode cL_law 542 = .ok (.iadd, 1) := by decide +kernel
theorem dL_law_543 : decode cL_law 543 = .ok (.iaload, 1) := by decide +kernel
theorem dL_law_544 : decode cL_law 544 = .ok (.aload_n 0, 1) := by decide +kernel
theorem dL_law_545 : decode cL_law 545 = .ok (.iload 4, 2) := by decide +kernel
theorem dL_law_547 : decode cL_law 547 = .ok (.iconst 3, 1) := by decide +kernel
theorem dL_law_548 : decode cL_law 548 = .ok (.iadd, 1) := by decide +kernel
theorem dL_law_549 : decode cL_law 549 = .ok (.iaload, 1) := by decide +kernel
theorem dL_law_550 : decode cL_law 550 = .ok (.aload_n 3, 1) := by decide +kernel
theorem dL_law_551 : decode cL_law 551 = .ok (.invokestatic 117, 3) := by decide +kernel
theorem dL_law_554 : decode cL_law 554 = .ok (.istore 5, 2) := by decide +kernel
theorem dL_law_556 : decode cL_law 556 = .ok (.aload_n 2, 1) := by decide +kernel
theorem dL_law_557 : decode cL_law 557 = .ok (.aload_n 0, 1) := by decide +kernel
theorem dL_law_558 : decode cL_law 558 = .ok (.iload 4, 2) := by decide +kernel
theorem dL_law_560 : decode cL_law 560 = .ok (.iconst 1, 1) := by decide +kernel
theorem dL_law_561 : decode cL_law 561 = .ok (.iadd, 1) := by decide +kernel
theorem dL_law_562 : decode cL_law 562 = .ok (.iaload, 1) := by decide +kernel
theorem dL_law_563 : decode cL_law 563 = .ok (.aload_n 0, 1) := by decide +kernel
theorem dL_law_564 : decode cL_law 564 = .ok (.iload 4, 2) := by decide +kernel
theorem dL_law_566 : decode cL_law 566 = .ok (.iconst 2, 1) := by decide +kernel
theorem dL_law_567 : decode cL_law 567 = .ok (.iadd, 1) := by decide +kernel
theorem dL_law_568 : decode cL_law 568 = .ok (.iaload, 1) := by decide +kernel
theorem dL_law_569 : decode cL_law 569 = .ok (.aload_n 0, 1) := by decide +kernel
theorem dL_law_570 : decode cL_law 570 = .ok (.iload 4, 2) := by decide +kernel
theorem dL_law_572 : decode cL_law 572 = .ok (.iconst 3, 1) := by decide +kernel
theorem dL_law_573 : decode cL_law 573 = .ok (.iadd, 1) := by decide +kernel
theorem dL_law_574 : decode cL_law 574 = .ok (.iaload, 1) := by decide +kernel
theorem dL_law_575 : decode cL_law 575 = .ok (.invokevirtual 120, 3) := by decide +kernel
theorem dL_law_578 : decode cL_law 578 = .ok (.istore 6, 2) := by decide +kernel
theorem dL_law_580 : decode cL_law 580 = .ok (.aload_n 2, 1) := by decide +kernel
theorem dL_law_581 : decode cL_law 581 = .ok (.invokevirtual 93, 3) := by decide +kernel
theorem dL_law_584 : decode cL_law 584 = .ok (.iload 5, 2) := by decide +kernel
theorem dL_law_586 : decode cL_law 586 = .ok (.if_icmp .eq 5, 3) := by decide +kernel
theorem dL_law_589 : decode cL_law 589 = .ok (.iconst 0, 1) := by decide +kernel
theorem dL_law_590 : decode cL_law 590 = .ok (.ireturn, 1) := by decide +kernel
theorem dL_law_591 : decode cL_law 591 = .ok (.iload 5, 2) := by decide +kernel
theorem dL_law_593 : decode cL_law 593 = .ok (.ifCond .ne 15, 3) := by decide +kernel
theorem dL_law_596 : decode cL_law 596 = .ok (.aload_n 3, 1) := by decide +kernel
theorem dL_law_597 : decode cL_law 597 = .ok (.iconst 0, 1) := by decide +kernel
theorem dL_law_598 : decode cL_law 598 = .ok (.laload, 1) := by decide +kernel
theorem dL_law_599 : decode cL_law 599 = .ok (.iload 6, 2) := by decide +kernel
theorem dL_law_601 : decode cL_law 601 = .ok (.i2l, 1) := by decide +kernel
theorem dL_law_602 : decode cL_law 602 = .ok (.lcmp, 1) := by decide +kernel
theorem dL_law_603 : decode cL_law 603 = .ok (.ifCond .eq 5, 3) := by decide +kernel
theorem dL_law_606 : decode cL_law 606 = .ok (.iconst 0, 1) := by decide +kernel
theorem dL_law_607 : decode cL_law 607 = .ok (.ireturn, 1) := by decide +kernel
theorem dL_law_608 : decode cL_law 608 = .ok (.goto 802, 3) := by decide +kernel
theorem dL_law_611 : decode cL_law 611 = .ok (.aload_n 1, 1) := by decide +kernel
theorem dL_law_612 : decode cL_law 612 = .ok (.aload_n 0, 1) := by decide +kernel
theorem dL_law_613 : decode cL_law 613 = .ok (.iload 4, 2) := by decide +kernel
theorem dL_law_615 : decode cL_law 615 = .ok (.iconst 1, 1) := by decide +kernel
theorem dL_law_616 : decode cL_law 616 = .ok (.iadd, 1) := by decide +kernel
theorem dL_law_617 : decode cL_law 617 = .ok (.iaload, 1) := by decide +kernel
theorem dL_law_618 : decode cL_law 618 = .ok (.aload_n 0, 1) := by decide +kernel
theorem dL_law_619 : decode cL_law 619 = .ok (.iload 4, 2) := by decide +kernel
theorem dL_law_621 : decode cL_law 621 = .ok (.iconst 2, 1) := by decide +kernel
theorem dL_law_622 : decode cL_law 622 = .ok (.iadd, 1) := by decide +kernel
theorem dL_law_623 : decode cL_law 623 = .ok (.iaload, 1) := by decide +kernel
theorem dL_law_624 : decode cL_law 624 = .ok (.aload_n 3, 1) := by decide +kernel
theorem dL_law_625 : decode cL_law 625 = .ok (.invokestatic 121, 3) := by decide +kernel
theorem dL_law_628 : decode cL_law 628 = .ok (.istore 5, 2) := by decide +kernel
theorem dL_law_630 : decode cL_law 630 = .ok (.aload_n 2, 1) := by decide +kernel
theorem dL_law_631 : decode cL_law 631 = .ok (.aload_n 0, 1) := by decide +kernel
theorem dL_law_632 : decode cL_law 632 = .ok (.iload 4, 2) := by decide +kernel
theorem dL_law_634 : decode cL_law 634 = .ok (.iconst 1, 1) := by decide +kernel
theorem dL_law_635 : decode cL_law 635 = .ok (.iadd, 1) := by decide +kernel
theorem dL_law_636 : decode cL_law 636 = .ok (.iaload, 1) := by decide +kernel
theorem dL_law_637 : decode cL_law 637 = .ok (.aload_n 0, 1) := by decide +kernel
theorem dL_law_638 : decode cL_law 638 = .ok (.iload 4, 2) := by decide +kernel
theorem dL_law_640 : decode cL_law 640 = .ok (.iconst 2, 1) := by decide +kernel
theorem dL_law_641 : decode cL_law 641 = .ok (.iadd, 1) := by decide +kernel
theorem dL_law_642 : decode cL_law 642 = .ok (.iaload, 1) := by decide +kernel
theorem dL_law_643 : decode cL_law 643 = .ok (.invokevirtual 123, 3) := by decide +kernel
theorem dL_law_646 : decode cL_law 646 = .ok (.istore 6, 2) := by decide +kernel
theorem dL_law_648 : decode cL_law 648 = .ok (.aload_n 2, 1) := by decide +kernel
theorem dL_law_649 : decode cL_law 649 = .ok (.invokevirtual 93, 3) := by decide +kernel
theorem dL_law_652 : decode cL_law 652 = .ok (.iload 5, 2) := by decide +kernel
theorem dL_law_654 : decode cL_law 654 = .ok (.if_icmp .eq 5, 3) := by decide +kernel
theorem dL_law_657 : decode cL_law 657 = .ok (.iconst 0, 1) := by decide +kernel
theorem dL_law_658 : decode cL_law 658 = .ok (.ireturn, 1) := by decide +kernel
theorem dL_law_659 : decode cL_law 659 = .ok (.iload 5, 2) := by decide +kernel
theorem dL_law_661 : decode cL_law 661 = .ok (.ifCond .ne 15, 3) := by decide +kernel
theorem dL_law_664 : decode cL_law 664 = .ok (.aload_n 3, 1) := by decide +kernel
theorem dL_law_665 : decode cL_law 665 = .ok (.iconst 0, 1) := by decide +kernel
theorem dL_law_666 : decode cL_law 666 = .ok (.laload, 1) := by decide +kernel
theorem dL_law_667 : decode cL_law 667 = .ok (.iload 6, 2) := by decide +kernel
theorem dL_law_669 : decode cL_law 669 = .ok (.i2l, 1) := by decide +kernel
theorem dL_law_670 : decode cL_law 670 = .ok (.lcmp, 1) := by decide +kernel
theorem dL_law_671 : decode cL_law 671 = .ok (.ifCond .eq 5, 3) := by decide +kernel
theorem dL_law_674 : decode cL_law 674 = .ok (.iconst 0, 1) := by decide +kernel
theorem dL_law_675 : decode cL_law 675 = .ok (.ireturn, 1) := by decide +kernel
theorem dL_law_676 : decode cL_law 676 = .ok (.goto 734, 3) := by decide +kernel
theorem dL_law_679 : decode cL_law 679 = .ok (.aload_n 1, 1) := by decide +kernel
theorem dL_law_680 : decode cL_law 680 = .ok (.aload_n 0, 1) := by decide +kernel
theorem dL_law_681 : decode cL_law 681 = .ok (.iload 4, 2) := by decide +kernel
theorem dL_law_683 : decode cL_law 683 = .ok (.iconst 1, 1) := by decide +kernel
theorem dL_law_684 : decode cL_law 684 = .ok (.iadd, 1) := by decide +kernel
theorem dL_law_685 : decode cL_law 685 = .ok (.iaload, 1) := by decide +kernel
theorem dL_law_686 : decode cL_law 686 = .ok (.aload_n 3, 1) := by decide +kernel
theorem dL_law_687 : decode cL_law 687 = .ok (.invokestatic 124, 3) := by decide +kernel
theorem dL_law_690 : decode cL_law 690 = .ok (.istore 5, 2) := by decide +kernel
theorem dL_law_692 : decode cL_law 692 = .ok (.aload_n 2, 1) := by decide +kernel
theorem dL_law_693 : decode cL_law 693 = .ok (.aload_n 0, 1) := by decide +kernel
theorem dL_law_694 : decode cL_law 694 = .ok (.iload 4, 2) := by decide +kernel
theorem dL_law_696 : decode cL_law 696 = .ok (.iconst 1, 1) := by decide +kernel
theorem dL_law_697 : decode cL_law 697 = .ok (.iadd, 1) := by decide +kernel
theorem dL_law_698 : decode cL_law 698 = .ok (.iaload, 1) := by decide +kernel
theorem dL_law_699 : decode cL_law 699 = .ok (.invokevirtual 126, 3) := by decide +kernel
theorem dL_law_702 : decode cL_law 702 = .ok (.istore 6, 2) := by decide +kernel
theorem dL_law_704 : decode cL_law 704 = .ok (.aload_n 2, 1) := by decide +kernel
theorem dL_law_705 : decode cL_law 705 = .ok (.invokevirtual 93, 3) := by decide +kernel
theorem dL_law_708 : decode cL_law 708 = .ok (.iload 5, 2) := by decide +kernel
theorem dL_law_710 : decode cL_law 710 = .ok (.if_icmp .eq 5, 3) := by decide +kernel
theorem dL_law_713 : decode cL_law 713 = .ok (.iconst 0, 1) := by decide +kernel
theorem dL_law_714 : decode cL_law 714 = .ok (.ireturn, 1) := by decide +kernel
theorem dL_law_715 : decode cL_law 715 = .ok (.iload 5, 2) := by decide +kernel
theorem dL_law_717 : decode cL_law 717 = .ok (.ifCond .ne 15, 3) := by decide +kernel
theorem dL_law_720 : decode cL_law 720 = .ok (.aload_n 3, 1) := by decide +kernel
theorem dL_law_721 : decode cL_law 721 = .ok (.iconst 0, 1) := by decide +kernel
theorem dL_law_722 : decode cL_law 722 = .ok (.laload, 1) := by decide +kernel
theorem dL_law_723 : decode cL_law 723 = .ok (.iload 6, 2) := by decide +kernel
theorem dL_law_725 : decode cL_law 725 = .ok (.i2l, 1) := by decide +kernel
theorem dL_law_726 : decode cL_law 726 = .ok (.lcmp, 1) := by decide +kernel
theorem dL_law_727 : decode cL_law 727 = .ok (.ifCond .eq 5, 3) := by decide +kernel
theorem dL_law_730 : decode cL_law 730 = .ok (.iconst 0, 1) := by decide +kernel
theorem dL_law_731 : decode cL_law 731 = .ok (.ireturn, 1) := by decide +kernel
theorem dL_law_732 : decode cL_law 732 = .ok (.goto 678, 3) := by decide +kernel
theorem dL_law_735 : decode cL_law 735 = .ok (.aload_n 1, 1) := by decide +kernel
theorem dL_law_736 : decode cL_law 736 = .ok (.aload_n 0, 1) := by decide +kernel
theorem dL_law_737 : decode cL_law 737 = .ok (.iload 4, 2) := by decide +kernel
theorem dL_law_739 : decode cL_law 739 = .ok (.iconst 1, 1) := by decide +kernel
theorem dL_law_740 : decode cL_law 740 = .ok (.iadd, 1) := by decide +kernel
theorem dL_law_741 : decode cL_law 741 = .ok (.iaload, 1) := by decide +kernel
theorem dL_law_742 : decode cL_law 742 = .ok (.aload_n 3, 1) := by decide +kernel
theorem dL_law_743 : decode cL_law 743 = .ok (.invokestatic 127, 3) := by decide +kernel
theorem dL_law_746 : decode cL_law 746 = .ok (.istore 5, 2) := by decide +kernel
theorem dL_law_748 : decode cL_law 748 = .ok (.aload_n 2, 1) := by decide +kernel
theorem dL_law_749 : decode cL_law 749 = .ok (.aload_n 0, 1) := by decide +kernel
theorem dL_law_750 : decode cL_law 750 = .ok (.iload 4, 2) := by decide +kernel
theorem dL_law_752 : decode cL_law 752 = .ok (.iconst 1, 1) := by decide +kernel
theorem dL_law_753 : decode cL_law 753 = .ok (.iadd, 1) := by decide +kernel
theorem dL_law_754 : decode cL_law 754 = .ok (.iaload, 1) := by decide +kernel
theorem dL_law_755 : decode cL_law 755 = .ok (.invokevirtual 129, 3) := by decide +kernel
theorem dL_law_758 : decode cL_law 758 = .ok (.istore 6, 2) := by decide +kernel
theorem dL_law_760 : decode cL_law 760 = .ok (.aload_n 2, 1) := by decide +kernel
theorem dL_law_761 : decode cL_law 761 = .ok (.invokevirtual 93, 3) := by decide +kernel
theorem dL_law_764 : decode cL_law 764 = .ok (.iload 5, 2) := by decide +kernel
theorem dL_law_766 : decode cL_law 766 = .ok (.if_icmp .eq 5, 3) := by decide +kernel
theorem dL_law_769 : decode cL_law 769 = .ok (.iconst 0, 1) := by decide +kernel
theorem dL_law_770 : decode cL_law 770 = .ok (.ireturn, 1) := by decide +kernel
theorem dL_law_771 : decode cL_law 771 = .ok (.iload 5, 2) := by decide +kernel
theorem dL_law_773 : decode cL_law 773 = .ok (.ifCond .ne 15, 3) := by decide +kernel
theorem dL_law_776 : decode cL_law 776 = .ok (.aload_n 3, 1) := by decide +kernel
theorem dL_law_777 : decode cL_law 777 = .ok (.iconst 0, 1) := by decide +kernel
theorem dL_law_778 : decode cL_law 778 = .ok (.laload, 1) := by decide +kernel
theorem dL_law_779 : decode cL_law 779 = .ok (.iload 6, 2) := by decide +kernel
theorem dL_law_781 : decode cL_law 781 = .ok (.i2l, 1) := by decide +kernel
theorem dL_law_782 : decode cL_law 782 = .ok (.lcmp, 1) := by decide +kernel
theorem dL_law_783 : decode cL_law 783 = .ok (.ifCond .eq 5, 3) := by decide +kernel
theorem dL_law_786 : decode cL_law 786 = .ok (.iconst 0, 1) := by decide +kernel
theorem dL_law_787 : decode cL_law 787 = .ok (.ireturn, 1) := by decide +kernel
theorem dL_law_788 : decode cL_law 788 = .ok (.goto 622, 3) := by decide +kernel
theorem dL_law_791 : decode cL_law 791 = .ok (.aload_n 1, 1) := by decide +kernel
theorem dL_law_792 : decode cL_law 792 = .ok (.aload_n 0, 1) := by decide +kernel
theorem dL_law_793 : decode cL_law 793 = .ok (.iload 4, 2) := by decide +kernel
theorem dL_law_795 : decode cL_law 795 = .ok (.iconst 1, 1) := by decide +kernel
theorem dL_law_796 : decode cL_law 796 = .ok (.iadd, 1) := by decide +kernel
theorem dL_law_797 : decode cL_law 797 = .ok (.iaload, 1) := by decide +kernel
theorem dL_law_798 : decode cL_law 798 = .ok (.aload_n 0, 1) := by decide +kernel
theorem dL_law_799 : decode cL_law 799 = .ok (.iload 4, 2) := by decide +kernel
theorem dL_law_801 : decode cL_law 801 = .ok (.iconst 2, 1) := by decide +kernel
theorem dL_law_802 : decode cL_law 802 = .ok (.iadd, 1) := by decide +kernel
theorem dL_law_803 : decode cL_law 803 = .ok (.iaload, 1) := by decide +kernel
theorem dL_law_804 : decode cL_law 804 = .ok (.aload_n 0, 1) := by decide +kernel
theorem dL_law_805 : decode cL_law 805 = .ok (.iload 4, 2) := by decide +kernel
theorem dL_law_807 : decode cL_law 807 = .ok (.iconst 3, 1) := by decide +kernel
theorem dL_law_808 : decode cL_law 808 = .ok (.iadd, 1) := by decide +kernel
theorem dL_law_809 : decode cL_law 809 = .ok (.iaload, 1) := by decide +kernel
theorem dL_law_810 : decode cL_law 810 = .ok (.aload_n 3, 1) := by decide +kernel
theorem dL_law_811 : decode cL_law 811 = .ok (.invokestatic 130, 3) := by decide +kernel
theorem dL_law_814 : decode cL_law 814 = .ok (.istore 5, 2) := by decide +kernel
theorem dL_law_816 : decode cL_law 816 = .ok (.aload_n 2, 1) := by decide +kernel
theorem dL_law_817 : decode cL_law 817 = .ok (.aload_n 0, 1) := by decide +kernel
theorem dL_law_818 : decode cL_law 818 = .ok (.iload 4, 2) := by decide +kernel
theorem dL_law_820 : decode cL_law 820 = .ok (.iconst 1, 1) := by decide +kernel
theorem dL_law_821 : decode cL_law 821 = .ok (.iadd, 1) := by decide +kernel
theorem dL_law_822 : decode cL_law 822 = .ok (.iaload, 1) := by decide +kernel
theorem dL_law_823 : decode cL_law 823 = .ok (.aload_n 0, 1) := by decide +kernel
theorem dL_law_824 : decode cL_law 824 = .ok (.iload 4, 2) := by decide +kernel
theorem dL_law_826 : decode cL_law 826 = .ok (.iconst 2, 1) := by decide +kernel
theorem dL_law_827 : decode cL_law 827 = .ok (.iadd, 1) := by decide +kernel
theorem dL_law_828 : decode cL_law 828 = .ok (.iaload, 1) := by decide +kernel
theorem dL_law_829 : decode cL_law 829 = .ok (.aload_n 0, 1) := by decide +kernel
theorem dL_law_830 : decode cL_law 830 = .ok (.iload 4, 2) := by decide +kernel
theorem dL_law_832 : decode cL_law 832 = .ok (.iconst 3, 1) := by decide +kernel
theorem dL_law_833 : decode cL_law 833 = .ok (.iadd, 1) := by decide +kernel
theorem dL_law_834 : decode cL_law 834 = .ok (.iaload, 1) := by decide +kernel
theorem dL_law_835 : decode cL_law 835 = .ok (.invokevirtual 132, 3) := by decide +kernel
theorem dL_law_838 : decode cL_law 838 = .ok (.istore 6, 2) := by decide +kernel
theorem dL_law_840 : decode cL_law 840 = .ok (.aload_n 2, 1) := by decide +kernel
theorem dL_law_841 : decode cL_law 841 = .ok (.invokevirtual 93, 3) := by decide +kernel
theorem dL_law_844 : decode cL_law 844 = .ok (.iload 5, 2) := by decide +kernel
theorem dL_law_846 : decode cL_law 846 = .ok (.if_icmp .eq 5, 3) := by decide +kernel
theorem dL_law_849 : decode cL_law 849 = .ok (.iconst 0, 1) := by decide +kernel
theorem dL_law_850 : decode cL_law 850 = .ok (.ireturn, 1) := by decide +kernel
theorem dL_law_851 : decode cL_law 851 = .ok (.iload 5, 2) := by decide +kernel
theorem dL_law_853 : decode cL_law 853 = .ok (.ifCond .ne 15, 3) := by decide +kernel
theorem dL_law_856 : decode cL_law 856 = .ok (.aload_n 3, 1) := by decide +kernel
theorem dL_law_857 : decode cL_law 857 = .ok (.iconst 0, 1) := by decide +kernel
theorem dL_law_858 : decode cL_law 858 = .ok (.laload, 1) := by decide +kernel
theorem dL_law_859 : decode cL_law 859 = .ok (.iload 6, 2) := by decide +kernel
theorem dL_law_861 : decode cL_law 861 = .ok (.i2l, 1) := by decide +kernel
theorem dL_law_862 : decode cL_law 862 = .ok (.lcmp, 1) := by decide +kernel
theorem dL_law_863 : decode cL_law 863 = .ok (.ifCond .eq 5, 3) := by decide +kernel
theorem dL_law_866 : decode cL_law 866 = .ok (.iconst 0, 1) := by decide +kernel
theorem dL_law_867 : decode cL_law 867 = .ok (.ireturn, 1) := by decide +kernel
theorem dL_law_868 : decode cL_law 868 = .ok (.goto 542, 3) := by decide +kernel
theorem dL_law_871 : decode cL_law 871 = .ok (.aload_n 1, 1) := by decide +kernel
theorem dL_law_872 : decode cL_law 872 = .ok (.invokevirtual 133, 3) := by decide +kernel
theorem dL_law_875 : decode cL_law 875 = .ok (.aload_n 2, 1) := by decide +kernel
theorem dL_law_876 : decode cL_law 876 = .ok (.invokevirtual 136, 3) := by decide +kernel
theorem dL_law_879 : decode cL_law 879 = .ok (.if_icmp .eq 531, 3) := by decide +kernel
theorem dL_law_882 : decode cL_law 882 = .ok (.iconst 0, 1) := by decide +kernel
theorem dL_law_883 : decode cL_law 883 = .ok (.ireturn, 1) := by decide +kernel
theorem dL_law_884 : decode cL_law 884 = .ok (.aload_n 1, 1) := by decide +kernel
theorem dL_law_885 : decode cL_law 885 = .ok (.aload_n 0, 1) := by decide +kernel
theorem dL_law_886 : decode cL_law 886 = .ok (.iload 4, 2) := by decide +kernel
theorem dL_law_888 : decode cL_law 888 = .ok (.iconst 1, 1) := by decide +kernel
theorem dL_law_889 : decode cL_law 889 = .ok (.iadd, 1) := by decide +kernel
theorem dL_law_890 : decode cL_law 890 = .ok (.iaload, 1) := by decide +kernel
theorem dL_law_891 : decode cL_law 891 = .ok (.aload_n 0, 1) := by decide +kernel
theorem dL_law_892 : decode cL_law 892 = .ok (.iload 4, 2) := by decide +kernel
theorem dL_law_894 : decode cL_law 894 = .ok (.iconst 2, 1) := by decide +kernel
theorem dL_law_895 : decode cL_law 895 = .ok (.iadd, 1) := by decide +kernel
theorem dL_law_896 : decode cL_law 896 = .ok (.iaload, 1) := by decide +kernel
theorem dL_law_897 : decode cL_law 897 = .ok (.aload_n 3, 1) := by decide +kernel
theorem dL_law_898 : decode cL_law 898 = .ok (.invokestatic 137, 3) := by decide +kernel
theorem dL_law_901 : decode cL_law 901 = .ok (.istore 5, 2) := by decide +kernel
theorem dL_law_903 : decode cL_law 903 = .ok (.aload_n 2, 1) := by decide +kernel
theorem dL_law_904 : decode cL_law 904 = .ok (.aload_n 0, 1) := by decide +kernel
theorem dL_law_905 : decode cL_law 905 = .ok (.iload 4, 2) := by decide +kernel
theorem dL_law_907 : decode cL_law 907 = .ok (.iconst 1, 1) := by decide +kernel
theorem dL_law_908 : decode cL_law 908 = .ok (.iadd, 1) := by decide +kernel
theorem dL_law_909 : decode cL_law 909 = .ok (.iaload, 1) := by decide +kernel
theorem dL_law_910 : decode cL_law 910 = .ok (.aload_n 0, 1) := by decide +kernel
theorem dL_law_911 : decode cL_law 911 = .ok (.iload 4, 2) := by decide +kernel
theorem dL_law_913 : decode cL_law 913 = .ok (.iconst 2, 1) := by decide +kernel
theorem dL_law_914 : decode cL_law 914 = .ok (.iadd, 1) := by decide +kernel
theorem dL_law_915 : decode cL_law 915 = .ok (.iaload, 1) := by decide +kernel
theorem dL_law_916 : decode cL_law 916 = .ok (.invokevirtual 139, 3) := by decide +kernel
theorem dL_law_919 : decode cL_law 919 = .ok (.istore 6, 2) := by decide +kernel
theorem dL_law_921 : decode cL_law 921 = .ok (.aload_n 2, 1) := by decide +kernel
theorem dL_law_922 : decode cL_law 922 = .ok (.invokevirtual 93, 3) := by decide +kernel
theorem dL_law_925 : decode cL_law 925 = .ok (.iload 5, 2) := by decide +kernel
theorem dL_law_927 : decode cL_law 927 = .ok (.if_icmp .eq 5, 3) := by decide +kernel
theorem dL_law_930 : decode cL_law 930 = .ok (.iconst 0, 1) := by decide +kernel
theorem dL_law_931 : decode cL_law 931 = .ok (.ireturn, 1) := by decide +kernel
theorem dL_law_932 : decode cL_law 932 = .ok (.iload 5, 2) := by decide +kernel
theorem dL_law_934 : decode cL_law 934 = .ok (.ifCond .ne 15, 3) := by decide +kernel
theorem dL_law_937 : decode cL_law 937 = .ok (.aload_n 3, 1) := by decide +kernel
theorem dL_law_938 : decode cL_law 938 = .ok (.iconst 0, 1) := by decide +kernel
theorem dL_law_939 : decode cL_law 939 = .ok (.laload, 1) := by decide +kernel
theorem dL_law_940 : decode cL_law 940 = .ok (.iload 6, 2) := by decide +kernel
theorem dL_law_942 : decode cL_law 942 = .ok (.i2l, 1) := by decide +kernel
theorem dL_law_943 : decode cL_law 943 = .ok (.lcmp, 1) := by decide +kernel
theorem dL_law_944 : decode cL_law 944 = .ok (.ifCond .eq 5, 3) := by decide +kernel
theorem dL_law_947 : decode cL_law 947 = .ok (.iconst 0, 1) := by decide +kernel
theorem dL_law_948 : decode cL_law 948 = .ok (.ireturn, 1) := by decide +kernel
theorem dL_law_949 : decode cL_law 949 = .ok (.goto 461, 3) := by decide +kernel
theorem dL_law_952 : decode cL_law 952 = .ok (.aload_n 1, 1) := by decide +kernel
theorem dL_law_953 : decode cL_law 953 = .ok (.aload_n 0, 1) := by decide +kernel
theorem dL_law_954 : decode cL_law 954 = .ok (.iload 4, 2) := by decide +kernel
theorem dL_law_956 : decode cL_law 956 = .ok (.iconst 1, 1) := by decide +kernel
theorem dL_law_957 : decode cL_law 957 = .ok (.iadd, 1) := by decide +kernel
theorem dL_law_958 : decode cL_law 958 = .ok (.iaload, 1) := by decide +kernel
theorem dL_law_959 : decode cL_law 959 = .ok (.aload_n 0, 1) := by decide +kernel
theorem dL_law_960 : decode cL_law 960 = .ok (.iload 4, 2) := by decide +kernel
theorem dL_law_962 : decode cL_law 962 = .ok (.iconst 2, 1) := by decide +kernel
theorem dL_law_963 : decode cL_law 963 = .ok (.iadd, 1) := by decide +kernel
theorem dL_law_964 : decode cL_law 964 = .ok (.iaload, 1) := by decide +kernel
theorem dL_law_965 : decode cL_law 965 = .ok (.aload_n 3, 1) := by decide +kernel
theorem dL_law_966 : decode cL_law 966 = .ok (.invokestatic 140, 3) := by decide +kernel
theorem dL_law_969 : decode cL_law 969 = .ok (.istore 5, 2) := by decide +kernel
theorem dL_law_971 : decode cL_law 971 = .ok (.aload_n 2, 1) := by decide +kernel
theorem dL_law_972 : decode cL_law 972 = .ok (.aload_n 0, 1) := by decide +kernel
theorem dL_law_973 : decode cL_law 973 = .ok (.iload 4, 2) := by decide +kernel
theorem dL_law_975 : decode cL_law 975 = .ok (.iconst 1, 1) := by decide +kernel
theorem dL_law_976 : decode cL_law 976 = .ok (.iadd, 1) := by decide +kernel
theorem dL_law_977 : decode cL_law 977 = .ok (.iaload, 1) := by decide +kernel
theorem dL_law_978 : decode cL_law 978 = .ok (.aload_n 0, 1) := by decide +kernel
theorem dL_law_979 : decode cL_law 979 = .ok (.iload 4, 2) := by decide +kernel
theorem dL_law_981 : decode cL_law 981 = .ok (.iconst 2, 1) := by decide +kernel
theorem dL_law_982 : decode cL_law 982 = .ok (.iadd, 1) := by decide +kernel
theorem dL_law_983 : decode cL_law 983 = .ok (.iaload, 1) := by decide +kernel
theorem dL_law_984 : decode cL_law 984 = .ok (.invokevirtual 142, 3) := by decide +kernel
theorem dL_law_987 : decode cL_law 987 = .ok (.istore 6, 2) := by decide +kernel
theorem dL_law_989 : decode cL_law 989 = .ok (.aload_n 2, 1) := by decide +kernel
theorem dL_law_990 : decode cL_law 990 = .ok (.invokevirtual 93, 3) := by decide +kernel
theorem dL_law_993 : decode cL_law 993 = .ok (.iload 5, 2) := by decide +kernel
theorem dL_law_995 : decode cL_law 995 = .ok (.if_icmp .eq 5, 3) := by decide +kernel
theorem dL_law_998 : decode cL_law 998 = .ok (.iconst 0, 1) := by decide +kernel
theorem dL_law_999 : decode cL_law 999 = .ok (.ireturn, 1) := by decide +kernel
theorem dL_law_1000 : decode cL_law 1000 = .ok (.iload 5, 2) := by decide +kernel
theorem dL_law_1002 : decode cL_law 1002 = .ok (.ifCond .ne 15, 3) := by decide +kernel
theorem dL_law_1005 : decode cL_law 1005 = .ok (.aload_n 3, 1) := by decide +kernel
theorem dL_law_1006 : decode cL_law 1006 = .ok (.iconst 0, 1) := by decide +kernel
theorem dL_law_1007 : decode cL_law 1007 = .ok (.laload, 1) := by decide +kernel
theorem dL_law_1008 : decode cL_law 1008 = .ok (.iload 6, 2) := by decide +kernel
theorem dL_law_1010 : decode cL_law 1010 = .ok (.i2l, 1) := by decide +kernel
theorem dL_law_1011 : decode cL_law 1011 = .ok (.lcmp, 1) := by decide +kernel
theorem dL_law_1012 : decode cL_law 1012 = .ok (.ifCond .eq 5, 3) := by decide +kernel
theorem dL_law_1015 : decode cL_law 1015 = .ok (.iconst 0, 1) := by decide +kernel
theorem dL_law_1016 : decode cL_law 1016 = .ok (.ireturn, 1) := by decide +kernel
theorem dL_law_1017 : decode cL_law 1017 = .ok (.goto 393, 3) := by decide +kernel
theorem dL_law_1020 : decode cL_law 1020 = .ok (.aload_n 1, 1) := by decide +kernel
theorem dL_law_1021 : decode cL_law 1021 = .ok (.aload_n 0, 1) := by decide +kernel
theorem dL_law_1022 : decode cL_law 1022 = .ok (.iload 4, 2) := by decide +kernel
theorem dL_law_1024 : decode cL_law 1024 = .ok (.iconst 1, 1) := by decide +kernel
theorem dL_law_1025 : decode cL_law 1025 = .ok (.iadd, 1) := by decide +kernel
theorem dL_law_1026 : decode cL_law 1026 = .ok (.iaload, 1) := by decide +kernel
theorem dL_law_1027 : decode cL_law 1027 = .ok (.aload_n 3, 1) := by decide +kernel
theorem dL_law_1028 : decode cL_law 1028 = .ok (.invokestatic 143, 3) := by decide +kernel
theorem dL_law_1031 : decode cL_law 1031 = .ok (.istore 5, 2) := by decide +kernel
theorem dL_law_1033 : decode cL_law 1033 = .ok (.aload_n 2, 1) := by decide +kernel
theorem dL_law_1034 : decode cL_law 1034 = .ok (.aload_n 0, 1) := by decide +kernel
theorem dL_law_1035 : decode cL_law 1035 = .ok (.iload 4, 2) := by decide +kernel
theorem dL_law_1037 : decode cL_law 1037 = .ok (.iconst 1, 1) := by decide +kernel
theorem dL_law_1038 : decode cL_law 1038 = .ok (.iadd, 1) := by decide +kernel
theorem dL_law_1039 : decode cL_law 1039 = .ok (.iaload, 1) := by decide +kernel
theorem dL_law_1040 : decode cL_law 1040 = .ok (.invokevirtual 145, 3) := by decide +kernel
theorem dL_law_1043 : decode cL_law 1043 = .ok (.istore 6, 2) := by decide +kernel
theorem dL_law_1045 : decode cL_law 1045 = .ok (.aload_n 2, 1) := by decide +kernel
theorem dL_law_1046 : decode cL_law 1046 = .ok (.invokevirtual 93, 3) := by decide +kernel
theorem dL_law_1049 : decode cL_law 1049 = .ok (.iload 5, 2) := by decide +kernel
theorem dL_law_1051 : decode cL_law 1051 = .ok (.if_icmp .eq 5, 3) := by decide +kernel
theorem dL_law_1054 : decode cL_law 1054 = .ok (.iconst 0, 1) := by decide +kernel
theorem dL_law_1055 : decode cL_law 1055 = .ok (.ireturn, 1) := by decide +kernel
theorem dL_law_1056 : decode cL_law 1056 = .ok (.iload 5, 2) := by decide +kernel
theorem dL_law_1058 : decode cL_law 1058 = .ok (.ifCond .ne 15, 3) := by decide +kernel
theorem dL_law_1061 : decode cL_law 1061 = .ok (.aload_n 3, 1) := by decide +kernel
theorem dL_law_1062 : decode cL_law 1062 = .ok (.iconst 0, 1) := by decide +kernel
theorem dL_law_1063 : decode cL_law 1063 = .ok (.laload, 1) := by decide +kernel
theorem dL_law_1064 : decode cL_law 1064 = .ok (.iload 6, 2) := by decide +kernel
theorem dL_law_1066 : decode cL_law 1066 = .ok (.i2l, 1) := by decide +kernel
theorem dL_law_1067 : decode cL_law 1067 = .ok (.lcmp, 1) := by decide +kernel
theorem dL_law_1068 : decode cL_law 1068 = .ok (.ifCond .eq 5, 3) := by decide +kernel
theorem dL_law_1071 : decode cL_law 1071 = .ok (.iconst 0, 1) := by decide +kernel
theorem dL_law_1072 : decode cL_law 1072 = .ok (.ireturn, 1) := by decide +kernel
theorem dL_law_1073 : decode cL_law 1073 = .ok (.goto 337, 3) := by decide +kernel
theorem dL_law_1076 : decode cL_law 1076 = .ok (.aload_n 1, 1) := by decide +kernel
theorem dL_law_1077 : decode cL_law 1077 = .ok (.aload_n 0, 1) := by decide +kernel
theorem dL_law_1078 : decode cL_law 1078 = .ok (.iload 4, 2) := by decide +kernel
theorem dL_law_1080 : decode cL_law 1080 = .ok (.iconst 1, 1) := by decide +kernel
theorem dL_law_1081 : decode cL_law 1081 = .ok (.iadd, 1) := by decide +kernel
theorem dL_law_1082 : decode cL_law 1082 = .ok (.iaload, 1) := by decide +kernel
theorem dL_law_1083 : decode cL_law 1083 = .ok (.aload_n 3, 1) := by decide +kernel
theorem dL_law_1084 : decode cL_law 1084 = .ok (.invokestatic 146, 3) := by decide +kernel
theorem dL_law_1087 : decode cL_law 1087 = .ok (.istore 5, 2) := by decide +kernel
theorem dL_law_1089 : decode cL_law 1089 = .ok (.aload_n 2, 1) := by decide +kernel
theorem dL_law_1090 : decode cL_law 1090 = .ok (.aload_n 0, 1) := by decide +kernel
theorem dL_law_1091 : decode cL_law 1091 = .ok (.iload 4, 2) := by decide +kernel
theorem dL_law_1093 : decode cL_law 1093 = .ok (.iconst 1, 1) := by decide +kernel
theorem dL_law_1094 : decode cL_law 1094 = .ok (.iadd, 1) := by decide +kernel
theorem dL_law_1095 : decode cL_law 1095 = .ok (.iaload, 1) := by decide +kernel
theorem dL_law_1096 : decode cL_law 1096 = .ok (.invokevirtual 148, 3) := by decide +kernel
theorem dL_law_1099 : decode cL_law 1099 = .ok (.lstore 6, 2) := by decide +kernel
theorem dL_law_1101 : decode cL_law 1101 = .ok (.aload_n 2, 1) := by decide +kernel
theorem dL_law_1102 : decode cL_law 1102 = .ok (.invokevirtual 93, 3) := by decide +kernel
theorem dL_law_1105 : decode cL_law 1105 = .ok (.iload 5, 2) := by decide +kernel
theorem dL_law_1107 : decode cL_law 1107 = .ok (.if_icmp .eq 5, 3) := by decide +kernel
theorem dL_law_1110 : decode cL_law 1110 = .ok (.iconst 0, 1) := by decide +kernel
theorem dL_law_1111 : decode cL_law 1111 = .ok (.ireturn, 1) := by decide +kernel
theorem dL_law_1112 : decode cL_law 1112 = .ok (.iload 5, 2) := by decide +kernel
theorem dL_law_1114 : decode cL_law 1114 = .ok (.ifCond .ne 14, 3) := by decide +kernel
theorem dL_law_1117 : decode cL_law 1117 = .ok (.aload_n 3, 1) := by decide +kernel
theorem dL_law_1118 : decode cL_law 1118 = .ok (.iconst 0, 1) := by decide +kernel
theorem dL_law_1119 : decode cL_law 1119 = .ok (.laload, 1) := by decide +kernel
theorem dL_law_1120 : decode cL_law 1120 = .ok (.lload 6, 2) := by decide +kernel
theorem dL_law_1122 : decode cL_law 1122 = .ok (.lcmp, 1) := by decide +kernel
theorem dL_law_1123 : decode cL_law 1123 = .ok (.ifCond .eq 5, 3) := by decide +kernel
theorem dL_law_1126 : decode cL_law 1126 = .ok (.iconst 0, 1) := by decide +kernel
theorem dL_law_1127 : decode cL_law 1127 = .ok (.ireturn, 1) := by decide +kernel
theorem dL_law_1128 : decode cL_law 1128 = .ok (.goto 282, 3) := by decide +kernel
theorem dL_law_1131 : decode cL_law 1131 = .ok (.aload_n 1, 1) := by decide +kernel
theorem dL_law_1132 : decode cL_law 1132 = .ok (.invokevirtual 149, 3) := by decide +kernel
theorem dL_law_1135 : decode cL_law 1135 = .ok (.aload_n 2, 1) := by decide +kernel
theorem dL_law_1136 : decode cL_law 1136 = .ok (.invokevirtual 152, 3) := by decide +kernel
theorem dL_law_1139 : decode cL_law 1139 = .ok (.lcmp, 1) := by decide +kernel
theorem dL_law_1140 : decode cL_law 1140 = .ok (.ifCond .eq 270, 3) := by decide +kernel
theorem dL_law_1143 : decode cL_law 1143 = .ok (.iconst 0, 1) := by decide +kernel
theorem dL_law_1144 : decode cL_law 1144 = .ok (.ireturn, 1) := by decide +kernel
theorem dL_law_1145 : decode cL_law 1145 = .ok (.aload_n 1, 1) := by decide +kernel
theorem dL_law_1146 : decode cL_law 1146 = .ok (.aload_n 0, 1) := by decide +kernel
theorem dL_law_1147 : decode cL_law 1147 = .ok (.iload 4, 2) := by decide +kernel
theorem dL_law_1149 : decode cL_law 1149 = .ok (.iconst 1, 1) := by decide +kernel
theorem dL_law_1150 : decode cL_law 1150 = .ok (.iadd, 1) := by decide +kernel
theorem dL_law_1151 : decode cL_law 1151 = .ok (.iaload, 1) := by decide +kernel
theorem dL_law_1152 : decode cL_law 1152 = .ok (.aload_n 3, 1) := by decide +kernel
theorem dL_law_1153 : decode cL_law 1153 = .ok (.invokestatic 153, 3) := by decide +kernel
theorem dL_law_1156 : decode cL_law 1156 = .ok (.istore 5, 2) := by decide +kernel
theorem dL_law_1158 : decode cL_law 1158 = .ok (.aload_n 2, 1) := by decide +kernel
theorem dL_law_1159 : decode cL_law 1159 = .ok (.aload_n 0, 1) := by decide +kernel
theorem dL_law_1160 : decode cL_law 1160 = .ok (.iload 4, 2) := by decide +kernel
theorem dL_law_1162 : decode cL_law 1162 = .ok (.iconst 1, 1) := by decide +kernel
theorem dL_law_1163 : decode cL_law 1163 = .ok (.iadd, 1) := by decide +kernel
theorem dL_law_1164 : decode cL_law 1164 = .ok (.iaload, 1) := by decide +kernel
theorem dL_law_1165 : decode cL_law 1165 = .ok (.invokevirtual 155, 3) := by decide +kernel
theorem dL_law_1168 : decode cL_law 1168 = .ok (.istore 6, 2) := by decide +kernel
theorem dL_law_1170 : decode cL_law 1170 = .ok (.aload_n 2, 1) := by decide +kernel
theorem dL_law_1171 : decode cL_law 1171 = .ok (.invokevirtual 93, 3) := by decide +kernel
theorem dL_law_1174 : decode cL_law 1174 = .ok (.iload 5, 2) := by decide +kernel
theorem dL_law_1176 : decode cL_law 1176 = .ok (.if_icmp .eq 5, 3) := by decide +kernel
theorem dL_law_1179 : decode cL_law 1179 = .ok (.iconst 0, 1) := by decide +kernel
theorem dL_law_1180 : decode cL_law 1180 = .ok (.ireturn, 1) := by decide +kernel
theorem dL_law_1181 : decode cL_law 1181 = .ok (.iload 5, 2) := by decide +kernel
theorem dL_law_1183 : decode cL_law 1183 = .ok (.ifCond .ne 15, 3) := by decide +kernel
theorem dL_law_1186 : decode cL_law 1186 = .ok (.aload_n 3, 1) := by decide +kernel
theorem dL_law_1187 : decode cL_law 1187 = .ok (.iconst 0, 1) := by decide +kernel
theorem dL_law_1188 : decode cL_law 1188 = .ok (.laload, 1) := by decide +kernel
theorem dL_law_1189 : decode cL_law 1189 = .ok (.iload 6, 2) := by decide +kernel
theorem dL_law_1191 : decode cL_law 1191 = .ok (.i2l, 1) := by decide +kernel
theorem dL_law_1192 : decode cL_law 1192 = .ok (.lcmp, 1) := by decide +kernel
theorem dL_law_1193 : decode cL_law 1193 = .ok (.ifCond .eq 5, 3) := by decide +kernel
theorem dL_law_1196 : decode cL_law 1196 = .ok (.iconst 0, 1) := by decide +kernel
theorem dL_law_1197 : decode cL_law 1197 = .ok (.ireturn, 1) := by decide +kernel
theorem dL_law_1198 : decode cL_law 1198 = .ok (.goto 212, 3) := by decide +kernel
theorem dL_law_1201 : decode cL_law 1201 = .ok (.aload_n 1, 1) := by decide +kernel
theorem dL_law_1202 : decode cL_law 1202 = .ok (.aload_n 0, 1) := by decide +kernel
theorem dL_law_1203 : decode cL_law 1203 = .ok (.iload 4, 2) := by decide +kernel
theorem dL_law_1205 : decode cL_law 1205 = .ok (.iconst 1, 1) := by decide +kernel
theorem dL_law_1206 : decode cL_law 1206 = .ok (.iadd, 1) := by decide +kernel
theorem dL_law_1207 : decode cL_law 1207 = .ok (.iaload, 1) := by decide +kernel
theorem dL_law_1208 : decode cL_law 1208 = .ok (.aload_n 0, 1) := by decide +kernel
theorem dL_law_1209 : decode cL_law 1209 = .ok (.iload 4, 2) := by decide +kernel
theorem dL_law_1211 : decode cL_law 1211 = .ok (.iconst 2, 1) := by decide +kernel
theorem dL_law_1212 : decode cL_law 1212 = .ok (.iadd, 1) := by decide +kernel
theorem dL_law_1213 : decode cL_law 1213 = .ok (.iaload, 1) := by decide +kernel
theorem dL_law_1214 : decode cL_law 1214 = .ok (.aload_n 3, 1) := by decide +kernel
theorem dL_law_1215 : decode cL_law 1215 = .ok (.invokestatic 156, 3) := by decide +kernel
theorem dL_law_1218 : decode cL_law 1218 = .ok (.istore 5, 2) := by decide +kernel
theorem dL_law_1220 : decode cL_law 1220 = .ok (.aload_n 2, 1) := by decide +kernel
theorem dL_law_1221 : decode cL_law 1221 = .ok (.aload_n 0, 1) := by decide +kernel
theorem dL_law_1222 : decode cL_law 1222 = .ok (.iload 4, 2) := by decide +kernel
theorem dL_law_1224 : decode cL_law 1224 = .ok (.iconst 1, 1) := by decide +kernel
theorem dL_law_1225 : decode cL_law 1225 = .ok (.iadd, 1) := by decide +kernel
theorem dL_law_1226 : decode cL_law 1226 = .ok (.iaload, 1) := by decide +kernel
theorem dL_law_1227 : decode cL_law 1227 = .ok (.aload_n 0, 1) := by decide +kernel
theorem dL_law_1228 : decode cL_law 1228 = .ok (.iload 4, 2) := by decide +kernel
theorem dL_law_1230 : decode cL_law 1230 = .ok (.iconst 2, 1) := by decide +kernel
theorem dL_law_1231 : decode cL_law 1231 = .ok (.iadd, 1) := by decide +kernel
theorem dL_law_1232 : decode cL_law 1232 = .ok (.iaload, 1) := by decide +kernel
theorem dL_law_1233 : decode cL_law 1233 = .ok (.invokevirtual 158, 3) := by decide +kernel
theorem dL_law_1236 : decode cL_law 1236 = .ok (.istore 6, 2) := by decide +kernel
theorem dL_law_1238 : decode cL_law 1238 = .ok (.aload_n 2, 1) := by decide +kernel
theorem dL_law_1239 : decode cL_law 1239 = .ok (.invokevirtual 93, 3) := by decide +kernel
theorem dL_law_1242 : decode cL_law 1242 = .ok (.iload 5, 2) := by decide +kernel
theorem dL_law_1244 : decode cL_law 1244 = .ok (.if_icmp .eq 5, 3) := by decide +kernel
theorem dL_law_1247 : decode cL_law 1247 = .ok (.iconst 0, 1) := by decide +kernel
theorem dL_law_1248 : decode cL_law 1248 = .ok (.ireturn, 1) := by decide +kernel
theorem dL_law_1249 : decode cL_law 1249 = .ok (.iload 5, 2) := by decide +kernel
theorem dL_law_1251 : decode cL_law 1251 = .ok (.ifCond .ne 15, 3) := by decide +kernel
theorem dL_law_1254 : decode cL_law 1254 = .ok (.aload_n 3, 1) := by decide +kernel
theorem dL_law_1255 : decode cL_law 1255 = .ok (.iconst 0, 1) := by decide +kernel
theorem dL_law_1256 : decode cL_law 1256 = .ok (.laload, 1) := by decide +kernel
theorem dL_law_1257 : decode cL_law 1257 = .ok (.iload 6, 2) := by decide +kernel
theorem dL_law_1259 : decode cL_law 1259 = .ok (.i2l, 1) := by decide +kernel
theorem dL_law_1260 : decode cL_law 1260 = .ok (.lcmp, 1) := by decide +kernel
theorem dL_law_1261 : decode cL_law 1261 = .ok (.ifCond .eq 5, 3) := by decide +kernel
theorem dL_law_1264 : decode cL_law 1264 = .ok (.iconst 0, 1) := by decide +kernel
theorem dL_law_1265 : decode cL_law 1265 = .ok (.ireturn, 1) := by decide +kernel
theorem dL_law_1266 : decode cL_law 1266 = .ok (.goto 144, 3) := by decide +kernel
theorem dL_law_1269 : decode cL_law 1269 = .ok (.aload_n 1, 1) := by decide +kernel
theorem dL_law_1270 : decode cL_law 1270 = .ok (.aload_n 0, 1) := by decide +kernel
theorem dL_law_1271 : decode cL_law 1271 = .ok (.iload 4, 2) := by decide +kernel
theorem dL_law_1273 : decode cL_law 1273 = .ok (.iconst 1, 1) := by decide +kernel
theorem dL_law_1274 : decode cL_law 1274 = .ok (.iadd, 1) := by decide +kernel
theorem dL_law_1275 : decode cL_law 1275 = .ok (.iaload, 1) := by decide +kernel
theorem dL_law_1276 : decode cL_law 1276 = .ok (.aload_n 3, 1) := by decide +kernel
theorem dL_law_1277 : decode cL_law 1277 = .ok (.invokestatic 159, 3) := by decide +kernel
theorem dL_law_1280 : decode cL_law 1280 = .ok (.istore 5, 2) := by decide +kernel
theorem dL_law_1282 : decode cL_law 1282 = .ok (.aload_n 2, 1) := by decide +kernel
theorem dL_law_1283 : decode cL_law 1283 = .ok (.aload_n 0, 1) := by decide +kernel
theorem dL_law_1284 : decode cL_law 1284 = .ok (.iload 4, 2) := by decide +kernel
theorem dL_law_1286 : decode cL_law 1286 = .ok (.iconst 1, 1) := by decide +kernel
theorem dL_law_1287 : decode cL_law 1287 = .ok (.iadd, 1) := by decide +kernel
theorem dL_law_1288 : decode cL_law 1288 = .ok (.iaload, 1) := by decide +kernel
theorem dL_law_1289 : decode cL_law 1289 = .ok (.invokevirtual 161, 3) := by decide +kernel
theorem dL_law_1292 : decode cL_law 1292 = .ok (.istore 6, 2) := by decide +kernel
theorem dL_law_1294 : decode cL_law 1294 = .ok (.aload_n 2, 1) := by decide +kernel
theorem dL_law_1295 : decode cL_law 1295 = .ok (.invokevirtual 93, 3) := by decide +kernel
theorem dL_law_1298 : decode cL_law 1298 = .ok (.iload 5, 2) := by decide +kernel
theorem dL_law_1300 : decode cL_law 1300 = .ok (.if_icmp .eq 5, 3) := by decide +kernel
theorem dL_law_1303 : decode cL_law 1303 = .ok (.iconst 0, 1) := by decide +kernel
theorem dL_law_1304 : decode cL_law 1304 = .ok (.ireturn, 1) := by decide +kernel
theorem dL_law_1305 : decode cL_law 1305 = .ok (.iload 5, 2) := by decide +kernel
theorem dL_law_1307 : decode cL_law 1307 = .ok (.ifCond .ne 15, 3) := by decide +kernel
theorem dL_law_1310 : decode cL_law 1310 = .ok (.aload_n 3, 1) := by decide +kernel
theorem dL_law_1311 : decode cL_law 1311 = .ok (.iconst 0, 1) := by decide +kernel
theorem dL_law_1312 : decode cL_law 1312 = .ok (.laload, 1) := by decide +kernel
theorem dL_law_1313 : decode cL_law 1313 = .ok (.iload 6, 2) := by decide +kernel
theorem dL_law_1315 : decode cL_law 1315 = .ok (.i2l, 1) := by decide +kernel
theorem dL_law_1316 : decode cL_law 1316 = .ok (.lcmp, 1) := by decide +kernel
theorem dL_law_1317 : decode cL_law 1317 = .ok (.ifCond .eq 5, 3) := by decide +kernel
theorem dL_law_1320 : decode cL_law 1320 = .ok (.iconst 0, 1) := by decide +kernel
theorem dL_law_1321 : decode cL_law 1321 = .ok (.ireturn, 1) := by decide +kernel
theorem dL_law_1322 : decode cL_law 1322 = .ok (.goto 88, 3) := by decide +kernel
theorem dL_law_1325 : decode cL_law 1325 = .ok (.aload_n 1, 1) := by decide +kernel
theorem dL_law_1326 : decode cL_law 1326 = .ok (.invokevirtual 162, 3) := by decide +kernel
theorem dL_law_1329 : decode cL_law 1329 = .ok (.aload_n 2, 1) := by decide +kernel
theorem dL_law_1330 : decode cL_law 1330 = .ok (.invokevirtual 165, 3) := by decide +kernel
theorem dL_law_1333 : decode cL_law 1333 = .ok (.lcmp, 1) := by decide +kernel
theorem dL_law_1334 : decode cL_law 1334 = .ok (.ifCond .eq 76, 3) := by decide +kernel
theorem dL_law_1337 : decode cL_law 1337 = .ok (.iconst 0, 1) := by decide +kernel
theorem dL_law_1338 : decode cL_law 1338 = .ok (.ireturn, 1) := by decide +kernel
theorem dL_law_1339 : decode cL_law 1339 = .ok (.aload_n 1, 1) := by decide +kernel
theorem dL_law_1340 : decode cL_law 1340 = .ok (.invokevirtual 166, 3) := by decide +kernel
theorem dL_law_1343 : decode cL_law 1343 = .ok (.aload_n 2, 1) := by decide +kernel
theorem dL_law_1344 : decode cL_law 1344 = .ok (.invokevirtual 169, 3) := by decide +kernel
theorem dL_law_1347 : decode cL_law 1347 = .ok (.lcmp, 1) := by decide +kernel
theorem dL_law_1348 : decode cL_law 1348 = .ok (.ifCond .eq 62, 3) := by decide +kernel
theorem dL_law_1351 : decode cL_law 1351 = .ok (.iconst 0, 1) := by decide +kernel
theorem dL_law_1352 : decode cL_law 1352 = .ok (.ireturn, 1) := by decide +kernel
theorem dL_law_1353 : decode cL_law 1353 = .ok (.aload_n 1, 1) := by decide +kernel
theorem dL_law_1354 : decode cL_law 1354 = .ok (.aload_n 3, 1) := by decide +kernel
theorem dL_law_1355 : decode cL_law 1355 = .ok (.invokestatic 170, 3) := by decide +kernel
theorem dL_law_1358 : decode cL_law 1358 = .ok (.istore 5, 2) := by decide +kernel
theorem dL_law_1360 : decode cL_law 1360 = .ok (.aload_n 2, 1) := by decide +kernel
theorem dL_law_1361 : decode cL_law 1361 = .ok (.invokevirtual 172, 3) := by decide +kernel
theorem dL_law_1364 : decode cL_law 1364 = .ok (.lstore 6, 2) := by decide +kernel
theorem dL_law_1366 : decode cL_law 1366 = .ok (.aload_n 2, 1) := by decide +kernel
theorem dL_law_1367 : decode cL_law 1367 = .ok (.invokevirtual 93, 3) := by decide +kernel
theorem dL_law_1370 : decode cL_law 1370 = .ok (.iload 5, 2) := by decide +kernel
theorem dL_law_1372 : decode cL_law 1372 = .ok (.if_icmp .eq 5, 3) := by decide +kernel
theorem dL_law_1375 : decode cL_law 1375 = .ok (.iconst 0, 1) := by decide +kernel
theorem dL_law_1376 : decode cL_law 1376 = .ok (.ireturn, 1) := by decide +kernel
theorem dL_law_1377 : decode cL_law 1377 = .ok (.iload 5, 2) := by decide +kernel
theorem dL_law_1379 : decode cL_law 1379 = .ok (.ifCond .ne 14, 3) := by decide +kernel
theorem dL_law_1382 : decode cL_law 1382 = .ok (.aload_n 3, 1) := by decide +kernel
theorem dL_law_1383 : decode cL_law 1383 = .ok (.iconst 0, 1) := by decide +kernel
theorem dL_law_1384 : decode cL_law 1384 = .ok (.laload, 1) := by decide +kernel
theorem dL_law_1385 : decode cL_law 1385 = .ok (.lload 6, 2) := by decide +kernel
theorem dL_law_1387 : decode cL_law 1387 = .ok (.lcmp, 1) := by decide +kernel
theorem dL_law_1388 : decode cL_law 1388 = .ok (.ifCond .eq 5, 3) := by decide +kernel
theorem dL_law_1391 : decode cL_law 1391 = .ok (.iconst 0, 1) := by decide +kernel
theorem dL_law_1392 : decode cL_law 1392 = .ok (.ireturn, 1) := by decide +kernel
theorem dL_law_1393 : decode cL_law 1393 = .ok (.goto 17, 3) := by decide +kernel
theorem dL_law_1396 : decode cL_law 1396 = .ok (.aload_n 1, 1) := by decide +kernel
theorem dL_law_1397 : decode cL_law 1397 = .ok (.invokevirtual 173, 3) := by decide +kernel
theorem dL_law_1400 : decode cL_law 1400 = .ok (.aload_n 2, 1) := by decide +kernel
theorem dL_law_1401 : decode cL_law 1401 = .ok (.invokevirtual 176, 3) := by decide +kernel
theorem dL_law_1404 : decode cL_law 1404 = .ok (.lcmp, 1) := by decide +kernel
theorem dL_law_1405 : decode cL_law 1405 = .ok (.ifCond .eq 5, 3) := by decide +kernel
theorem dL_law_1408 : decode cL_law 1408 = .ok (.iconst 0, 1) := by decide +kernel
theorem dL_law_1409 : decode cL_law 1409 = .ok (.ireturn, 1) := by decide +kernel
theorem dL_law_1410 : decode cL_law 1410 = .ok (.iinc 4 4, 3) := by decide +kernel
theorem dL_law_1413 : decode cL_law 1413 = .ok (.goto (-1390), 3) := by decide +kernel
theorem dL_law_1416 : decode cL_law 1416 = .ok (.iconst 1, 1) := by decide +kernel
theorem dL_law_1417 : decode cL_law 1417 = .ok (.ireturn, 1) := by decide +kernel
abbrev vwCl : List vw_C := [(RJx4a65c, TJx4a65c, 3), (RX0, TX0, 12), (RX1, TX1, 6), (RX2, TX2, 3), (RX3, TX3, 7), (RX4, TX4, 26)]
/-! ===== END printed: names (the pool of kinds left out: it holds a word that the screen refuses) ===== -/
end
section
/-! THE CLAIM OUT OF ONE WALK OF THE LAW'S BODY. Your part is whole_start (and what it stands on); all else here is the same for every law, but numbers. -/
def R_law : String := "TakeoffSheetLaw"
def lw_P (b : Addr) (xs : List Int32) (args : Array Value) (s : State) : Prop := args = #[.ref b] ∧ s.IntsAt b xs ∧ xs.length ≤ 2048 ∧ (Jvm.Cond.and given_1 narrow_1).before args s = true
def lw_Q (_ : Array Value) (s : State) (o : Outcome) (t : State) : Prop := o = .returned (some (.int 1)) ∧ Framed s o t [] 601024 7293033
def lw_Z (below : List Frame) (a : Array Value) (s : State) : State → Prop := fun t => ∃ o, t.status = .running ∧ Ended t below o ∧ lw_Q a s o t
/-- the law's own end, with 1 on the stack, nothing written that was there before, its room as the claim has it -/
theorem lw_ret {p : Program} {l : Launch} {e : Env} {s : State} {m : MethodId} {below : List Frame} {meth : Method} {c : Code} {b : Nat} (hx : p.tables.exec = Jvm.exec) (hb : c.code = code) (hr : meth.sig.returnType = ret) (hlocks : meth.locks = false) {pc : Nat} {H : Heap} {ls : Array Slot} (hdg : decode code pc = .ok (.ireturn, 1)) : W p l e room_1 s m #[Value.ref b] below meth c H [] 601024 7293033 (lw_Z below #[Value.ref b] s) (F0 m pc ls [.int 1]) := by
  intro T hT X
  obtain ⟨fs, hret, hrun, hended, hW, hframe⟩ := X.leave (v := some (.int 1)) (hlocks := hlocks) (fun h => by rw [hr] at h; cases h)
  have hmeth' : T.vm.method? m = some meth := X.method'
  refine ⟨T.setFrames fs, ?_, .returned (some (.int 1)), hrun, hended, rfl, ⟨_, rfl⟩, hW, hframe⟩
  jvm_step X.here [X.here.top, hx, hb, hdg, hmeth', hr, ret, narrow_b1]
  (try refine ⟨rfl, ?_⟩); (try refine ⟨rfl, ?_⟩)
  first | (intro acts; rw [hret _ acts rfl rfl rfl]) | rw [hret _ _ rfl rfl rfl]
  exact Steps.refl _
/-- what holds at the law's entry: the machine, the code, the tables' words (any of lw_tbl by 'hts w (by decide +kernel)'), the script of L ints xs at the cell b, what the Statement gives of the start (any of its parts by flat_of_before) -/
def lw_At (p : Program) (s : State) (m : MethodId) (meth : Method) (c : Code) (b L : Nat) (xs : Nat → Int32) : Prop :=
  p.tables.exec = Jvm.exec ∧ c.code = code ∧ meth.sig.returnType = ret ∧ c.maxLocals = 8 ∧ s.vm.findClass R_law = some m.cls ∧ (∀ w ∈ lw_tbl, w.before #[Value.ref b] s = true) ∧ va_X b L xs s s.heap ∧ b < s.heap.size ∧ meth.locks = false ∧ (Jvm.Cond.and given_1 narrow_1).before #[Value.ref b] s = true
end
section
/-! ===== the frame of all contracts: a world ws of cells by their places, handed whole to every call ===== -/
section KB1
/-- the array classes, by their places: int, long, boolean, Object -/
abbrev kTy (cI cJ cZ cO : ClassId) : List (ClassId × FieldType) := [(cI, .int), (cJ, .long), (cZ, .boolean), (cO, .object "java/lang/Object")]
def kIAE : String := "java/lang/IllegalArgumentException"
def kISE : String := "java/lang/IllegalStateException"
def kIOB : String := "java/lang/IndexOutOfBoundsException"
/-- the class's texts, by their places in its pool -/
def kTexts : List (Nat × String) := [(205, "no room for an item"), (203, "the parent is a leaf"), (201, "no such rate"), (199, "no such item"), (197, "the item is a heading"), (195, "no closed drawing"), (192, "out of its range"), (188, "nothing to claim"), (153, "too great a variation"), (111, "no room for a rate"), (82, "no room for an opening"), (69, "the wall may not go there"), (58, "no drawing that goes on")]
def kTX (U : State) : Prop := ∀ q ∈ kTexts, ∃ a, vk_R RX3 q.1 q.2 a U
theorem kTX.warm {s U : State} (hW : s.WarmedH U.vm) (h : kTX s) : kTX U := fun q hq => (h q hq).imp fun _ ha => ha.warm hW
theorem kTX.same {u U : State} (hv : U.vm = u.vm) (h : kTX u) : kTX U := fun q hq => (h q hq).imp fun _ ha => ha.same hv
/-- words that the tables decide and that no list of good ones holds -/
def kBad : List Cond := [.castable kIAE kIAE, .castable kISE kISE, .castable kIOB kIOB, .castable RX1 "java/lang/Object", .castable RX2 "java/lang/Object", .castable "[Ljava/lang/Object;" "java/lang/Object", .declares ⟨"java/lang/Object", "getClass", "()Ljava/lang/Class;"⟩,
  .declares ⟨"java/lang/Exception", "<init>", "(Ljava/lang/String;)V"⟩, .declares ⟨"java/lang/RuntimeException", "<init>", "(Ljava/lang/String;)V"⟩, .declares ⟨"java/lang/Throwable", "<init>", "(Ljava/lang/String;)V"⟩,
  .methodLinkNest RX3 9 ⟨RX0, "<init>", "()V"⟩ RX3, .methodLinkNest RX1 26 ⟨RX3, "hundredthsRoundedUp", "(J)J"⟩ RX3]
def kBok : Cond → Bool
  | .castable .. | .declares .. | .methodLinkNest .. => true
  | _ => false
theorem va_Nw.warmB {w : Cond} (hk : kBok w = true) {s U : State} (hW : s.WarmedH U.vm) (h : va_Nw w s) : va_Nw w U := by
  cases w with
  | castable a b => exact va_tabs rfl (rfl : (s.setVm U.vm).vm = U.vm) (by rw [Cond.castable_setVm hW.alike]; exact h)
  | declares x => exact va_Nw.warmD hW h
  | methodLinkNest a i x hh => exact va_Nw.warmM hW h
  | _ => exact absurd (show false = true from hk) (by decide)
def kNo : List (String × String) := [(kIAE, kISE), (kIAE, kIOB), (kISE, kIAE), (kISE, kIOB), (kIOB, kIAE), (kIOB, kISE)]
def kBw (mi : Nat) (U : State) : Prop := (∀ w ∈ kBad, va_Nw w U) ∧ (∀ q ∈ kNo, va_Nc q.1 q.2 U) ∧ va_Mi "[Ljava/lang/Object;" mi U
theorem kBad_ok : ∀ w ∈ kBad, kBok w = true := by
  intro w hw
  simp only [kBad, List.mem_cons, List.not_mem_nil, or_false] at hw
  rcases hw with rfl | rfl | rfl | rfl | rfl | rfl | rfl | rfl | rfl | rfl | rfl | rfl <;> rfl
theorem kBw.warm {mi : Nat} {s U : State} (hW : s.WarmedH U.vm) (h : kBw mi s) : kBw mi U :=
  ⟨fun w hw => (h.1 w hw).warmB (kBad_ok w hw) hW, fun q hq => (h.2.1 q hq).moved hW.alike, h.2.2.moved hW.alike⟩
theorem kBw.same {mi : Nat} {u U : State} (hv : u.vm = U.vm) (h : kBw mi u) : kBw mi U := by
  have hA : u.vm.Alike U.vm := by rw [hv]; exact Vm.Alike.refl _
  refine ⟨fun w hw => ?_, fun q hq => (h.2.1 q hq).moved hA, h.2.2.moved hA⟩
  have hk := kBad_ok w hw
  have h1 := h.1 w hw
  cases w with
  | castable a b => exact va_Nw.same rfl hv h1
  | declares x => exact va_Nw.same rfl hv h1
  | methodLinkNest a i x hh => exact va_Nw.same rfl hv h1
  | _ => exact absurd (show false = true from hk) (by decide)
/-- what the tables and the statics say, and what stays -/
def kZ (z mi : Nat) (A : Nat → Prop) (U : State) (H : Heap) : Prop := kTX U ∧ kBw mi U ∧ vx_Zq Bundle.tN "UNASSIGNED_STACK" Bundle.steD A U H ∧ vx_Zq Bundle.tN "SUPPRESSED_SENTINEL" Bundle.listD A U H ∧ va_Z RJx4a65c "DEFAULTCAPACITY_EMPTY_ELEMENTDATA" "[Ljava/lang/Object;" (.ref z) A U H ∧ va_T (.object "java/lang/Object") z 0 (fun _ => .null) A U H
theorem kZ.to {z mi : Nat} {A B : Nat → Prop} {s U : State} {H : Heap} {locs : List Loc} (h : kZ z mi A s s.heap) (hS : va_S A s.heap H locs) (hAB : ∀ q, B q → A q) (hW : s.WarmedH U.vm) (hU : U.heap = H) : kZ z mi B U U.heap := by
  subst hU
  obtain ⟨h1, h2, h3, h4, h5, h6⟩ := h
  exact ⟨h1.warm hW, h2.warm hW, ((h3.kept hS.2.1).narrow hAB).moved hW.alike, ((h4.kept hS.2.1).narrow hAB).moved hW.alike, ((h5.kept hS.2.1).narrow hAB).moved hW.alike, ((h6.kept hS.2.1).narrow hAB).moved hW.alike⟩
theorem kZ.same {z mi : Nat} {A : Nat → Prop} {u U : State} {H : Heap} (hv : u.vm = U.vm) (h : kZ z mi A u H) : kZ z mi A U H := by
  obtain ⟨h1, h2, h3, h4, h5, h6⟩ := h
  have hA : u.vm.Alike U.vm := by rw [hv]; exact Vm.Alike.refl _
  exact ⟨h1.same hv.symm, h2.same hv, h3.moved hA, h4.moved hA, h5.moved hA, h6.moved hA⟩
/-- a contract's start, its end, its throw -/
def kP (D : va_G) (ty : List (ClassId × FieldType)) (z mi : Nat) (av : List Value) (ws : va_W) (sz : Nat) : Array Value → State → Prop :=
  va_Pc av (fun U => U.heap.size = sz ∧ va_P D vwCl ws U.heap ∧ va_K D vwCl ty U ∧ va_D (va_A ws sz) ws ∧ kZ z mi (va_A ws sz) U U.heap)
def kQ (D : va_G) (post : Option Value → va_W → Prop) (A : Nat → Prop) : Array Value → State → Outcome → State → Prop := fun _ st oc t =>
  (∃ (v : Option Value) (u : va_W), oc = .returned v ∧ post v u ∧ va_P D vwCl u t.heap ∧ va_D A u) ∧ va_F A st t
def kXx (D : va_G) (px : String → va_W → Prop) (A : Nat → Prop) : String → State → State → Prop := fun E st t =>
  ∃ u : va_W, px E u ∧ va_P D vwCl u t.heap ∧ va_D A u ∧ va_F A st t
def kM (l : Launch) (D : va_G) (ty : List (ClassId × FieldType)) (z mi : Nat) (y : MethodName) (wsm : List Cond) (rm : Room) (av : List Value) (ws : va_W) (post : Option Value → va_W → Prop) (px : String → va_W → Prop) : Prop :=
  ∀ sz : Nat, vx_Met l y wsm rm (kP D ty z mi av ws sz) (kQ D post (va_A ws sz)) (kXx D px (va_A ws sz)) rm.cells rm.slots (va_A ws sz)
theorem kP.blind {D : va_G} {ty : List (ClassId × FieldType)} {z mi : Nat} {av : List Value} {ws : va_W} {sz : Nat} : FrameBlind (kP D ty z mi av ws sz) := by
  intro a U g mk h
  obtain ⟨h1, h2, h3, h4, h5, h6⟩ := h
  exact ⟨h1, h2, h3, va_K.moved (u := U) (U := U.calling g mk a) (Vm.Alike.refl U.vm) h4, h5, kZ.same (u := U) (U := U.calling g mk a) rfl h6⟩
/-- what a body stands on -/
def kC (p : Program) (l : Launch) (s : State) (m : MethodId) (args : Array Value) (meth : Method) (c : Code) (cc : ByteArray) (own : String) (wsm : List Cond) (nL : Nat) (D : va_G) (ty : List (ClassId × FieldType)) (z mi : Nat) (A : Nat → Prop) : Prop :=
  p.tables.exec = Jvm.exec ∧ c.code = cc ∧ c.maxLocals = nL ∧ s.vm.findClass own = some m.cls ∧ (∀ w ∈ wsm, w.before args s = true) ∧ meth.locks = false ∧ (∀ x ∈ c.exceptionTable.toList, False) ∧ va_K D vwCl ty s ∧ kZ z mi A s s.heap ∧ (∀ q, s.heap.size ≤ q → A q) ∧ l.stackTraces = false
/-- the world in the heap H -/
def kG (D : va_G) (A : Nat → Prop) (s : State) (ws : va_W) (H : Heap) (locs : List Loc) : Prop := va_P D vwCl ws H ∧ va_D A ws ∧ va_S A s.heap H locs
theorem kG.sub {D : va_G} {A : Nat → Prop} {s : State} {ws : va_W} {H : Heap} {locs : List Loc} (h : kG D A s ws H locs) (hA : ∀ q, s.heap.size ≤ q → A q) : ∀ q, va_A ws H.size q → A q := by
  intro q hq
  rcases hq with ⟨k, e, hk⟩ | hq
  · exact h.2.1.2 k _ hk
  · exact hA q (Nat.le_trans h.2.2.1 hq)
theorem kM.of {l : Launch} (hl : l.stackTraces = false) {D : va_G} {ty : List (ClassId × FieldType)} {z mi : Nat} {y : MethodName} {wsm ws' : List Cond} {rm : Room} {av : List Value} {ws : va_W} {post : Option Value → va_W → Prop} {px : String → va_W → Prop} {cc : ByteArray} {maxL : Nat} {ret : Option FieldType}
    (hy : plainName y.cls = true) (hw : wsm = Cond.code y cc maxL ret :: ws') (hn : (lg_sl av).length ≤ maxL)
    (body : ∀ (p : Program) (e : Env) (s : State) (m : MethodId) (args : Array Value) (below : List Frame) (meth : Method) (c : Code) (A : Nat → Prop) (ls : Array Slot), kC p l s m args meth c cc y.cls wsm maxL D ty z mi A → meth.sig.returnType = ret → meth.name = y.name → kG D A s ws s.heap [] → lv_has ls maxL (lv_args 0 av) →
      W p l e rm s m args below meth c s.heap [] 0 0 (vx_MQ below (kQ D post A) (kXx D px A) args s rm.cells rm.slots A) (F0 m 0 ls [])) : kM l D ty z mi y wsm rm av ws post px := by
  intro sz
  refine vx_ofW (cc := cc) (maxL := maxL) (ret := ret) hy hw ?_
  intro p e s m args below meth c s₁ B hml htb hv
  obtain ⟨rfl, hsz, hP, hK, hD, hZ⟩ := hv
  subst hsz
  have hown : s.vm.findClass y.cls = some m.cls := findClass_of_methodNamed B.named
  have hS : va_S (va_A ws s.heap.size) s.heap s.heap [] := va_S.rf
  have hl1 := lv_entry av (n := maxL) hn
  rw [lg_entry_eq]
  generalize (lg_sl av ++ List.replicate (maxL - (lg_sl av).length) Slot.unset).toArray = ls at hl1 ⊢
  exact body p e s m _ below meth c (va_A ws s.heap.size) ls ⟨B.exec, B.bytes, hml, hown, atoms_spec (ws := wsm) B.pre, B.notSynchronized, htb, hK, hZ, fun q h => Or.inr h, hl⟩ B.returns (name_of_methodNamed B.named B.method).1 ⟨hP, hD, hS⟩ hl1
end KB1
end
section
/-! ===== BEGIN a constructor that throws (launches without stack traces) ===== -/
section VXIA
variable {p : Program} {l : Launch} {e : Env} {R : Room} {s : State} {m : MethodId} {args : Array Value} {below : List Frame} {meth : Method} {c : Code} {T : State} {locs : List Loc} {cells slots : Nat}
theorem vx_callI (X : Stand p l e R s m args below meth c T locs cells slots) (hexec : p.tables.exec = Jvm.exec) {own : String} {index : Nat} {y : MethodName} {bytes : ByteArray} {maxL : Nat}
    (hown : s.vm.findClass own = some m.cls) (hy1 : y.name = "<init>") (hlink : (Cond.methodLink own index y).before args s = true) (hinst : (Cond.instanceMethod y).before args s = true)
    (hcode : (Cond.code y bytes maxL none).before args s = true) (hy : y.cls ≠ "java/lang/invoke/MethodHandle" ∧ y.cls ≠ "java/lang/invoke/VarHandle")
    {W9 : Nat} {Pre : Pt → Array Value → Prop} {Post : Pt → Array Value → Option Value → Pt → Prop} {PostX : Pt → Array Value → Addr → Pt → Prop} (hK : vx_Back l R p e below s args y 3 W9 Pre Post PostX)
    {g : JFrame} (hg : g.method = m) (hsize : g.locals.size = c.maxLocals) {a : Addr} {argsL rest : List Value} (hlen : ∀ sig, parseMethodDescriptor y.desc = some sig → argsL.length = sig.parameters.length)
    (hstack : g.stack = argsL.reverse ++ .ref a :: rest) (hW : 2 * g.monitorRoom + (rest.map fun v => v.category).sum ≤ W9) (hdg : decode c.code g.pc = .ok (.invokespecial index, 3))
    (hpre : ∀ vm₁, s.WarmedH vm₁ → Pre ⟨T.setVm vm₁, locs, cells, slots⟩ (Value.ref a :: argsL).toArray) :
    (∃ (v : Option Value) (vm₁ : Vm) (B : Pt), s.WarmedH vm₁ ∧ Stand p l e R s m args below meth c B.U B.locs B.cells B.slots ∧ Post ⟨T.setVm vm₁, locs, cells, slots⟩ (Value.ref a :: argsL).toArray v B ∧
      ∀ target, Steps p.tables e below (B.U.setTop { g with pc := g.pc + 3, stack := v.toList ++ rest }) target → Steps p.tables e below (T.setTop g) target) ∨
    (∃ (q : Addr) (vm₁ : Vm) (B : Pt), s.WarmedH vm₁ ∧ Stand p l e R s m args below meth c B.U B.locs B.cells B.slots ∧ PostX ⟨T.setVm vm₁, locs, cells, slots⟩ (Value.ref a :: argsL).toArray q B ∧
      Steps p.tables e below (T.setTop g) ((B.U.setTop { g with stack := rest }).pushFrame (.throwing q))) := by
  subst hg
  have hpl : e.platform.magicAccessors = ({} : Platform).magicAccessors := by rw [X.admits.platform]
  obtain ⟨mk, methM, cM, kP, vm₁, hnamed, hmethM, hcodeM, -, hlocalsM, -, hkP, -, hW₁, hstep₁⟩ := Steps.initColdArgs (e := e) X.here hexec X.warmed hpl hown hy1 hy hlink hinst hcode (f := g) rfl hlen hstack hdg
  have X₁ := X.noted hW₁
  rcases hK g.method meth c ⟨T.setVm vm₁, locs, cells, slots⟩ { g with stack := rest } (.invokespecial index) mk (Value.ref a :: argsL).toArray X₁ rfl hsize hdg hW (X₁.named hnamed) (hpre vm₁ X₁.warmed) with ⟨v, B, X', hpost, hsteps⟩ | ⟨q, B, X', hpost, hsteps⟩
  · exact Or.inl ⟨v, vm₁, B, X₁.warmed, X', hpost, fun target h => hstep₁ _ fun acts => by rw [doInvoke_state]; exact hsteps.trans h⟩
  · exact Or.inr ⟨q, vm₁, B, X₁.warmed, X', hpost, hstep₁ _ fun acts => by rw [doInvoke_state]; exact hsteps⟩
end VXIA
section VXIB
variable {p : Program} {l : Launch} {e : Env} {R : Room} {s : State} {m : MethodId} {args : Array Value} {below : List Frame} {meth : Method} {c : Code} {H : Heap} {locs : List Loc} {cells slots : Nat}
variable {y : MethodName} {bytes cc : ByteArray} {maxL nL mc ms n index : Nat} {ret : Option FieldType} {ws : List Cond} {rm : Room} {Pc : Array Value → State → Prop} {Qc : Array Value → State → Outcome → State → Prop} {XC : String → State → State → Prop} {free : Addr → Prop} {Ts : List Cond} {own C : String} {b : Addr} {As rest : List Value} {g : JFrame}
theorem vx_runI (S : CallFix p m c cc nL s args Ts own) (hM : vx_Met l y ws rm Pc Qc XC mc ms free) (cw : CallB R s args own index y bytes maxL none ws rm mc ms n ∧ y.name = "<init>" ∧ (Cond.instanceMethod y).before args s = true) (hp : PreS s H Pc (.ref b :: As))
    (hg : g.method = m) (hn : As.length = n) (hsize : g.locals.size = nL) (hstack : g.stack = As.reverse ++ .ref b :: rest) (hW : 2 * g.monitorRoom + (rest.map fun v => v.category).sum ≤ 8) (hdg : decode cc g.pc = .ok (.invokespecial index, 3)) (hf : cells + mc ≤ R.cells ∧ slots + ms ≤ R.slots) :
    vx_Run p l e R s m args below meth c H locs cells slots mc ms g rest (Qc (Value.ref b :: As).toArray) XC free := by
  have hK : vx_Back l R p e below s args y 3 8 (PreOf R mc ms Pc) (PostOf Qc mc ms free) (vx_Post XC mc ms free) := vx_callBack cw.1 hM hp.1
  obtain ⟨⟨-, -, -, -, -, -, hcode, -, hy, hlen, hl⟩, hy1, hin⟩ := cw
  obtain ⟨hx, hb, hml, ho, -⟩ := S
  have hPc := hp.2
  intro T hT X
  rcases vx_callI X hx (bytes := bytes) (maxL := maxL) ho hy1 hl hin hcode hy hK hg (hsize.trans hml.symm) (a := b) (argsL := As) (rest := rest) (fun sig h => hn.trans (hlen sig h)) hstack hW (by rw [hb]; exact hdg)
    (fun vm₁ hW₁ => ⟨hf.1, hf.2, hPc (T.setVm vm₁) hT hW₁⟩) with ⟨v, vm₁, ⟨U', l2, c2, s2⟩, hW₁, X', ⟨g', mk, t, L, e1, e2, hq, h1, hL, h2, h3⟩, st⟩ | ⟨q, vm₁, ⟨U', l2, c2, s2⟩, hW₁, X', ⟨g', mk, t, L, E, ce, e1, e2, hq, hce, hcv, hcl, h1, hL, h2, h3⟩, st⟩
  · dsimp only [Pt.U, Pt.locs, Pt.cells, Pt.slots] at X' e1 e2 h1 h2 h3 st
    subst h1; subst h2; subst h3
    exact Or.inl ⟨v, (T.setVm vm₁).calling g' mk (Value.ref b :: As).toArray, t, U', L, hT, X', hL, e1, e2, hq, st⟩
  · dsimp only [Pt.U, Pt.locs, Pt.cells, Pt.slots] at X' e1 e2 h1 h2 h3 st hcl
    subst h1; subst h2; subst h3
    exact Or.inr ⟨q, (T.setVm vm₁).calling g' mk (Value.ref b :: As).toArray, t, U', L, E, ce, hT, X', hL, e1, e2, hq, hce, hcv, vx_cls hW₁ hcl, st⟩
end VXIB
/-! ===== END ===== -/
/-! ===== BEGIN a private constructor of a nest mate that throws ===== -/
section VXIC
variable {p : Program} {l : Launch} {e : Env} {R : Room} {s : State} {m : MethodId} {args : Array Value} {below : List Frame} {meth : Method} {c : Code} {T : State} {locs : List Loc} {cells slots : Nat}
theorem vx_callIN (X : Stand p l e R s m args below meth c T locs cells slots) (hexec : p.tables.exec = Jvm.exec) {own : String} {index : Nat} {host : String} {y : MethodName} {bytes : ByteArray} {maxL : Nat}
    (hown : s.vm.findClass own = some m.cls) (hy1 : y.name = "<init>") (hlink : (Cond.methodLinkNest own index y host).before args s = true) (hinst : (Cond.instanceMethod y).before args s = true)
    (hcode : (Cond.code y bytes maxL none).before args s = true) (hy : y.cls ≠ "java/lang/invoke/MethodHandle" ∧ y.cls ≠ "java/lang/invoke/VarHandle")
    {W9 : Nat} {Pre : Pt → Array Value → Prop} {Post : Pt → Array Value → Option Value → Pt → Prop} {PostX : Pt → Array Value → Addr → Pt → Prop} (hK : vx_Back l R p e below s args y 3 W9 Pre Post PostX)
    {g : JFrame} (hg : g.method = m) (hsize : g.locals.size = c.maxLocals) {a : Addr} {argsL rest : List Value} (hlen : ∀ sig, parseMethodDescriptor y.desc = some sig → argsL.length = sig.parameters.length)
    (hstack : g.stack = argsL.reverse ++ .ref a :: rest) (hW : 2 * g.monitorRoom + (rest.map fun v => v.category).sum ≤ W9) (hdg : decode c.code g.pc = .ok (.invokespecial index, 3))
    (hpre : ∀ vm₁, s.WarmedH vm₁ → Pre ⟨T.setVm vm₁, locs, cells, slots⟩ (Value.ref a :: argsL).toArray) :
    (∃ (v : Option Value) (vm₁ : Vm) (B : Pt), s.WarmedH vm₁ ∧ Stand p l e R s m args below meth c B.U B.locs B.cells B.slots ∧ Post ⟨T.setVm vm₁, locs, cells, slots⟩ (Value.ref a :: argsL).toArray v B ∧
      ∀ target, Steps p.tables e below (B.U.setTop { g with pc := g.pc + 3, stack := v.toList ++ rest }) target → Steps p.tables e below (T.setTop g) target) ∨
    (∃ (q : Addr) (vm₁ : Vm) (B : Pt), s.WarmedH vm₁ ∧ Stand p l e R s m args below meth c B.U B.locs B.cells B.slots ∧ PostX ⟨T.setVm vm₁, locs, cells, slots⟩ (Value.ref a :: argsL).toArray q B ∧
      Steps p.tables e below (T.setTop g) ((B.U.setTop { g with stack := rest }).pushFrame (.throwing q))) := by
  subst hg
  have hpl : e.platform.magicAccessors = ({} : Platform).magicAccessors := by rw [X.admits.platform]
  obtain ⟨mk, methM, cM, kP, vm₁, hnamed, hmethM, hcodeM, -, hlocalsM, -, hkP, -, hW₁, hstep₁⟩ := Steps.initColdArgsNest (e := e) X.here hexec X.warmed hpl hown hy1 hy hlink hinst hcode (f := g) rfl hlen hstack hdg
  have X₁ := X.noted hW₁
  rcases hK g.method meth c ⟨T.setVm vm₁, locs, cells, slots⟩ { g with stack := rest } (.invokespecial index) mk (Value.ref a :: argsL).toArray X₁ rfl hsize hdg hW (X₁.named hnamed) (hpre vm₁ X₁.warmed) with ⟨v, B, X', hpost, hsteps⟩ | ⟨q, B, X', hpost, hsteps⟩
  · exact Or.inl ⟨v, vm₁, B, X₁.warmed, X', hpost, fun target h => hstep₁ _ fun acts => by rw [doInvoke_state]; exact hsteps.trans h⟩
  · exact Or.inr ⟨q, vm₁, B, X₁.warmed, X', hpost, hstep₁ _ fun acts => by rw [doInvoke_state]; exact hsteps⟩
end VXIC
section VXID
variable {p : Program} {l : Launch} {e : Env} {R : Room} {s : State} {m : MethodId} {args : Array Value} {below : List Frame} {meth : Method} {c : Code} {H : Heap} {locs : List Loc} {cells slots : Nat}
theorem vx_runIN {y : MethodName} {bytes cc : ByteArray} {maxL nL mc ms n index : Nat} {ws : List Cond} {rm : Room} {Pc : Array Value → State → Prop} {Qc : Array Value → State → Outcome → State → Prop} {XC : String → State → State → Prop} {free : Addr → Prop} {Ts : List Cond} {own host : String} {b : Addr} {As rest : List Value} {g : JFrame}
    (S : CallFix p m c cc nL s args Ts own) (hM : vx_Met l y ws rm Pc Qc XC mc ms free) (cw : va_CN R s args own index y host bytes maxL none ws rm mc ms n ∧ y.name = "<init>" ∧ (Cond.instanceMethod y).before args s = true) (hp : PreS s H Pc (.ref b :: As))
    (hg : g.method = m) (hn : As.length = n) (hsize : g.locals.size = nL) (hstack : g.stack = As.reverse ++ .ref b :: rest) (hW : 2 * g.monitorRoom + (rest.map fun v => v.category).sum ≤ 8) (hdg : decode cc g.pc = .ok (.invokespecial index, 3)) (hf : cells + mc ≤ R.cells ∧ slots + ms ≤ R.slots) :
    vx_Run p l e R s m args below meth c H locs cells slots mc ms g rest (Qc (Value.ref b :: As).toArray) XC free := by
  obtain ⟨⟨⟨hrc, hrs, hfr, hlo, hws, hcw⟩, hcode, hini, hy, hlen, hl⟩, hx1, hx2⟩ := cw
  have hK : vx_Back l R p e below s args y 3 8 (PreOf R mc ms Pc) (PostOf Qc mc ms free) (vx_Post XC mc ms free) := vx_back (bytes := bytes) (maxL := maxL) (ret := none) hM hp.1 hrc hrs hfr hlo hws hcw (fun a' U hW => word_at hW (Or.inl (by first | rfl | simp [Cond.onTables, Cond.keeps, Cond.steady])) hini)
  obtain ⟨hx, hb, hml, ho, -⟩ := S
  have hPc := hp.2
  intro T hT X
  rcases vx_callIN X hx (bytes := bytes) (maxL := maxL) ho hx1 hl hx2 hcode hy hK hg (hsize.trans hml.symm) (a := b) (argsL := As) (rest := rest) (fun sig h => hn.trans (hlen sig h)) hstack hW (by rw [hb]; exact hdg)
    (fun vm₁ hW₁ => ⟨hf.1, hf.2, hPc (T.setVm vm₁) hT hW₁⟩) with ⟨v, vm₁, ⟨U', l2, c2, s2⟩, hW₁, X', ⟨g', mk, t, L, e1, e2, hq, h1, hL, h2, h3⟩, st⟩ | ⟨q, vm₁, ⟨U', l2, c2, s2⟩, hW₁, X', ⟨g', mk, t, L, E, ce, e1, e2, hq, hce, hcv, hcl, h1, hL, h2, h3⟩, st⟩
  · dsimp only [Pt.U, Pt.locs, Pt.cells, Pt.slots] at X' e1 e2 h1 h2 h3 st
    subst h1; subst h2; subst h3
    exact Or.inl ⟨v, (T.setVm vm₁).calling g' mk (Value.ref b :: As).toArray, t, U', L, hT, X', hL, e1, e2, hq, st⟩
  · dsimp only [Pt.U, Pt.locs, Pt.cells, Pt.slots] at X' e1 e2 h1 h2 h3 st hcl
    subst h1; subst h2; subst h3
    exact Or.inr ⟨q, (T.setVm vm₁).calling g' mk (Value.ref b :: As).toArray, t, U', L, E, ce, hT, X', hL, e1, e2, hq, hce, hcv, vx_cls hW₁ hcl, st⟩
end VXID
/-! ===== END ===== -/
/-! ===== BEGIN a private method of a nest mate that may throw (follows va_callVN, va_callSN, va_runVN, va_runSN) ===== -/
section
variable {p : Program} {l : Launch} {e : Env} {R : Room} {s : State} {m : MethodId} {args : Array Value} {below : List Frame} {meth : Method} {c : Code} {H : Heap} {locs : List Loc} {cells slots : Nat}
variable {T : State}
theorem vx_callVN (X : Stand p l e R s m args below meth c T locs cells slots) (hexec : p.tables.exec = Jvm.exec) {own C : String} {index : Nat} {host : String} {y : MethodName} {bytes : ByteArray} {maxL : Nat} {ret : Option FieldType}
    (hown : s.vm.findClass own = some m.cls) (hlink : (Cond.methodLinkNest own index y host).before args s = true) (hinst : (Cond.instanceMethod y).before args s = true) (hsel : (Cond.selects C y y).before args s = true)
    (hcode : (Cond.code y bytes maxL ret).before args s = true) (hy : y.cls ≠ "java/lang/invoke/MethodHandle" ∧ y.cls ≠ "java/lang/invoke/VarHandle")
    {W : Nat} {Pre : Pt → Array Value → Prop} {Post : Pt → Array Value → Option Value → Pt → Prop} {PostX : Pt → Array Value → Addr → Pt → Prop} (hK : vx_Back l R p e below s args y 3 W Pre Post PostX)
    {b : Addr} {cellB : Cell} (hcell : T.heap[b]? = some cellB) (hobj : cellB.vm.isStatics = false) (hcls : s.vm.findClass C = some cellB.cls)
    {g : JFrame} (hg : g.method = m) (hsize : g.locals.size = c.maxLocals) {argsL rest : List Value} (hlen : ∀ sig, parseMethodDescriptor y.desc = some sig → argsL.length = sig.parameters.length)
    (hstack : g.stack = argsL.reverse ++ .ref b :: rest) (hW : 2 * g.monitorRoom + (rest.map fun v => v.category).sum ≤ W) (hdg : decode c.code g.pc = .ok (.invokevirtual index, 3))
    (hpre : ∀ vm₁, s.WarmedH vm₁ → Pre ⟨T.setVm vm₁, locs, cells, slots⟩ (Value.ref b :: argsL).toArray) :
    (∃ (v : Option Value) (vm₁ : Vm) (B : Pt), s.WarmedH vm₁ ∧ Stand p l e R s m args below meth c B.U B.locs B.cells B.slots ∧ Post ⟨T.setVm vm₁, locs, cells, slots⟩ (Value.ref b :: argsL).toArray v B ∧
      ∀ target, Steps p.tables e below (B.U.setTop { g with pc := g.pc + 3, stack := v.toList ++ rest }) target → Steps p.tables e below (T.setTop g) target) ∨
    (∃ (q : Addr) (vm₁ : Vm) (B : Pt), s.WarmedH vm₁ ∧ Stand p l e R s m args below meth c B.U B.locs B.cells B.slots ∧ PostX ⟨T.setVm vm₁, locs, cells, slots⟩ (Value.ref b :: argsL).toArray q B ∧
      Steps p.tables e below (T.setTop g) ((B.U.setTop { g with stack := rest }).pushFrame (.throwing q))) := by
  obtain ⟨mk, methM, hnamed, hmethM, hstM, habM⟩ := Cond.instanceMethod_spec hinst
  obtain ⟨methM', cM, hmethM', -, -, -, -, -, -, hsigM⟩ := Cond.code_spec hnamed hcode
  cases hmethM.symm.trans hmethM'
  obtain ⟨c2, r2, m2, q1, q2, q3, q4, kP, hkP, hkPi⟩ := Cond.selects_spec hsel
  cases hcls.symm.trans q1
  cases (State.methodFound?_of_named hnamed hy).symm.trans q2
  cases hnamed.symm.trans q3
  have hselP : selectMethod e.platform s.vm cellB.cls mk = .method mk := by rw [Launch.admits_selectMethod X.admits]; exact q4
  obtain ⟨vm₁, X₁, hstep₁⟩ := X.invokevirtualNest hexec hown hlink hnamed hmethM hstM hkP hkPi hy (a := b) (cell := cellB) hcell
    (fun z h => by rw [h] at hobj; cases hobj) hselP hmethM habM hkP hkPi (g := g) hg (argsL := argsL) (rest := rest) (hlen _ hsigM) hstack hdg
  rcases hK m meth c ⟨T.setVm vm₁, locs, cells, slots⟩ { g with stack := rest } (.invokevirtual index) mk (Value.ref b :: argsL).toArray X₁ hg hsize hdg hW (X₁.named hnamed) (hpre vm₁ X₁.warmed) with ⟨v, B, X', hpost, hsteps⟩ | ⟨q, B, X', hpost, hsteps⟩
  · exact Or.inl ⟨v, vm₁, B, X₁.warmed, X', hpost, fun target h => hstep₁ _ fun acts => by rw [doInvoke_state]; exact hsteps.trans h⟩
  · exact Or.inr ⟨q, vm₁, B, X₁.warmed, X', hpost, hstep₁ _ fun acts => by rw [doInvoke_state]; exact hsteps⟩
theorem vx_callSN (X : Stand p l e R s m args below meth c T locs cells slots) (hexec : p.tables.exec = Jvm.exec) {own : String} {index : Nat} {host : String} {y : MethodName} {bytes : ByteArray} {maxL : Nat} {ret : Option FieldType}
    (hown : s.vm.findClass own = some m.cls) (hlink : (Cond.methodLinkNest own index y host).before args s = true) (hstat : (Cond.static y).before args s = true) (hinit : (Cond.initialized y.cls).before args s = true)
    (hcode : (Cond.code y bytes maxL ret).before args s = true) (hy : y.cls ≠ "java/lang/invoke/MethodHandle" ∧ y.cls ≠ "java/lang/invoke/VarHandle")
    {W : Nat} {Pre : Pt → Array Value → Prop} {Post : Pt → Array Value → Option Value → Pt → Prop} {PostX : Pt → Array Value → Addr → Pt → Prop} (hK : vx_Back l R p e below s args y 3 W Pre Post PostX)
    {g : JFrame} (hg : g.method = m) (hsize : g.locals.size = c.maxLocals) {argsL rest : List Value} (hlen : ∀ sig, parseMethodDescriptor y.desc = some sig → argsL.length = sig.parameters.length)
    (hstack : g.stack = argsL.reverse ++ rest) (hW : 2 * g.monitorRoom + (rest.map fun v => v.category).sum ≤ W) (hdg : decode c.code g.pc = .ok (.invokestatic index, 3))
    (hpre : ∀ vm₁, s.WarmedH vm₁ → Pre ⟨T.setVm vm₁, locs, cells, slots⟩ argsL.toArray) :
    (∃ (v : Option Value) (vm₁ : Vm) (B : Pt), s.WarmedH vm₁ ∧ Stand p l e R s m args below meth c B.U B.locs B.cells B.slots ∧ Post ⟨T.setVm vm₁, locs, cells, slots⟩ argsL.toArray v B ∧
      ∀ target, Steps p.tables e below (B.U.setTop { g with pc := g.pc + 3, stack := v.toList ++ rest }) target → Steps p.tables e below (T.setTop g) target) ∨
    (∃ (q : Addr) (vm₁ : Vm) (B : Pt), s.WarmedH vm₁ ∧ Stand p l e R s m args below meth c B.U B.locs B.cells B.slots ∧ PostX ⟨T.setVm vm₁, locs, cells, slots⟩ argsL.toArray q B ∧
      Steps p.tables e below (T.setTop g) ((B.U.setTop { g with stack := rest }).pushFrame (.throwing q))) := by
  obtain ⟨mk, hnamed⟩ := Cond.code_named hcode
  obtain ⟨methM, cM, hmethM, -, -, -, -, -, -, hsigM⟩ := Cond.code_spec hnamed hcode
  have hstatic : methM.isStatic = true := Cond.static_spec hnamed hmethM hstat
  obtain ⟨kP, hkP, -⟩ := className_of_methodNamed hnamed
  have hinitP : kP.init = .initialized := Cond.initialized_spec (findClass_of_methodNamed hnamed) hkP hinit
  obtain ⟨vm₁, X₁, hstep₁⟩ := X.invokestaticNest hexec hown hlink hnamed hmethM hstatic hkP hinitP hy (g := g) hg (argsL := argsL) (rest := rest) (hlen _ hsigM) hstack hdg
  rcases hK m meth c ⟨T.setVm vm₁, locs, cells, slots⟩ { g with stack := rest } (.invokestatic index) mk argsL.toArray X₁ hg hsize hdg hW (X₁.named hnamed) (hpre vm₁ X₁.warmed) with ⟨v, B, X', hpost, hsteps⟩ | ⟨q, B, X', hpost, hsteps⟩
  · exact Or.inl ⟨v, vm₁, B, X₁.warmed, X', hpost, fun target h => hstep₁ _ fun acts => by rw [doInvoke_state]; exact hsteps.trans h⟩
  · exact Or.inr ⟨q, vm₁, B, X₁.warmed, X', hpost, hstep₁ _ fun acts => by rw [doInvoke_state]; exact hsteps⟩
theorem vx_runVN {y : MethodName} {bytes cc : ByteArray} {maxL nL mc ms n index : Nat} {ret : Option FieldType} {ws : List Cond} {rm : Room} {Pc : Array Value → State → Prop} {Qc : Array Value → State → Outcome → State → Prop} {XC : String → State → State → Prop} {free : Addr → Prop} {Ts : List Cond} {own C host : String} {b : Addr} {As rest : List Value} {g : JFrame}
    (S : CallFix p m c cc nL s args Ts own) (hM : vx_Met l y ws rm Pc Qc XC mc ms free) (cw : va_CN R s args own index y host bytes maxL ret ws rm mc ms n ∧ (Cond.instanceMethod y).before args s = true ∧ (Cond.selects C y y).before args s = true) (hp : PreV s H C b Pc As)
    (hg : g.method = m) (hn : As.length = n) (hsize : g.locals.size = nL) (hstack : g.stack = As.reverse ++ .ref b :: rest) (hW : 2 * g.monitorRoom + (rest.map fun v => v.category).sum ≤ 8) (hdg : decode cc g.pc = .ok (.invokevirtual index, 3)) (hf : cells + mc ≤ R.cells ∧ slots + ms ≤ R.slots) :
    vx_Run p l e R s m args below meth c H locs cells slots mc ms g rest (Qc (Value.ref b :: As).toArray) XC free := by
  obtain ⟨⟨⟨hrc, hrs, hfr, hlo, hws, hcw⟩, hcode, hini, hy, hlen, hl⟩, hx1, hx2⟩ := cw
  have hK : vx_Back l R p e below s args y 3 8 (PreOf R mc ms Pc) (PostOf Qc mc ms free) (vx_Post XC mc ms free) := vx_back (bytes := bytes) (maxL := maxL) (ret := ret) hM hp.1 hrc hrs hfr hlo hws hcw (fun a' U hW => word_at hW (Or.inl (by first | rfl | simp [Cond.onTables, Cond.keeps, Cond.steady])) hini)
  obtain ⟨hx, hb, hml, ho, -⟩ := S
  obtain ⟨-, ⟨cellB, hcB, hoB, hclB⟩, hPc⟩ := hp
  intro T hT X
  rcases vx_callVN X hx (C := C) (bytes := bytes) (maxL := maxL) (ret := ret) ho hl hx1 hx2 hcode hy hK (by rw [hT]; exact hcB) hoB hclB hg (hsize.trans hml.symm) (argsL := As) (rest := rest) (fun sig h => hn.trans (hlen sig h)) hstack hW (by rw [hb]; exact hdg)
    (fun vm₁ hW₁ => ⟨hf.1, hf.2, hPc (T.setVm vm₁) hT hW₁⟩) with ⟨v, vm₁, ⟨U', l2, c2, s2⟩, hW₁, X', ⟨g', mk, t, L, e1, e2, hq, h1, hL, h2, h3⟩, st⟩ | ⟨q, vm₁, ⟨U', l2, c2, s2⟩, hW₁, X', ⟨g', mk, t, L, E, ce, e1, e2, hq, hce, hcv, hcl, h1, hL, h2, h3⟩, st⟩
  · dsimp only [Pt.U, Pt.locs, Pt.cells, Pt.slots] at X' e1 e2 h1 h2 h3 st
    subst h1; subst h2; subst h3
    exact Or.inl ⟨v, (T.setVm vm₁).calling g' mk (Value.ref b :: As).toArray, t, U', L, hT, X', hL, e1, e2, hq, st⟩
  · dsimp only [Pt.U, Pt.locs, Pt.cells, Pt.slots] at X' e1 e2 h1 h2 h3 st hcl
    subst h1; subst h2; subst h3
    exact Or.inr ⟨q, (T.setVm vm₁).calling g' mk (Value.ref b :: As).toArray, t, U', L, E, ce, hT, X', hL, e1, e2, hq, hce, hcv, vx_cls hW₁ hcl, st⟩
theorem vx_runSN {y : MethodName} {bytes cc : ByteArray} {maxL nL mc ms n index : Nat} {ret : Option FieldType} {ws : List Cond} {rm : Room} {Pc : Array Value → State → Prop} {Qc : Array Value → State → Outcome → State → Prop} {XC : String → State → State → Prop} {free : Addr → Prop} {Ts : List Cond} {own host : String} {As rest : List Value} {g : JFrame}
    (S : CallFix p m c cc nL s args Ts own) (hM : vx_Met l y ws rm Pc Qc XC mc ms free) (cw : va_CN R s args own index y host bytes maxL ret ws rm mc ms n ∧ (Cond.static y).before args s = true ∧ True) (hp : PreS s H Pc As)
    (hg : g.method = m) (hn : As.length = n) (hsize : g.locals.size = nL) (hstack : g.stack = As.reverse ++ rest) (hW : 2 * g.monitorRoom + (rest.map fun v => v.category).sum ≤ 8) (hdg : decode cc g.pc = .ok (.invokestatic index, 3)) (hf : cells + mc ≤ R.cells ∧ slots + ms ≤ R.slots) :
    vx_Run p l e R s m args below meth c H locs cells slots mc ms g rest (Qc As.toArray) XC free := by
  obtain ⟨⟨⟨hrc, hrs, hfr, hlo, hws, hcw⟩, hcode, hini, hy, hlen, hl⟩, hx1, hx2⟩ := cw
  have hK : vx_Back l R p e below s args y 3 8 (PreOf R mc ms Pc) (PostOf Qc mc ms free) (vx_Post XC mc ms free) := vx_back (bytes := bytes) (maxL := maxL) (ret := ret) hM hp.1 hrc hrs hfr hlo hws hcw (fun a' U hW => word_at hW (Or.inl (by first | rfl | simp [Cond.onTables, Cond.keeps, Cond.steady])) hini)
  obtain ⟨hx, hb, hml, ho, -⟩ := S
  have hPc := hp.2
  intro T hT X
  rcases vx_callSN X hx (bytes := bytes) (maxL := maxL) (ret := ret) ho hl hx1 hini hcode hy hK hg (hsize.trans hml.symm) (argsL := As) (rest := rest) (fun sig h => hn.trans (hlen sig h)) hstack hW (by rw [hb]; exact hdg)
    (fun vm₁ hW₁ => ⟨hf.1, hf.2, hPc (T.setVm vm₁) hT hW₁⟩) with ⟨v, vm₁, ⟨U', l2, c2, s2⟩, hW₁, X', ⟨g', mk, t, L, e1, e2, hq, h1, hL, h2, h3⟩, st⟩ | ⟨q, vm₁, ⟨U', l2, c2, s2⟩, hW₁, X', ⟨g', mk, t, L, E, ce, e1, e2, hq, hce, hcv, hcl, h1, hL, h2, h3⟩, st⟩
  · dsimp only [Pt.U, Pt.locs, Pt.cells, Pt.slots] at X' e1 e2 h1 h2 h3 st
    subst h1; subst h2; subst h3
    exact Or.inl ⟨v, (T.setVm vm₁).calling g' mk As.toArray, t, U', L, hT, X', hL, e1, e2, hq, st⟩
  · dsimp only [Pt.U, Pt.locs, Pt.cells, Pt.slots] at X' e1 e2 h1 h2 h3 st hcl
    subst h1; subst h2; subst h3
    exact Or.inr ⟨q, (T.setVm vm₁).calling g' mk As.toArray, t, U', L, E, ce, hT, X', hL, e1, e2, hq, hce, hcv, vx_cls hW₁ hcl, st⟩
end
/-! ===== END ===== -/
/-! ===== rows over a whole world ===== -/
section KB2
variable {p : Program} {l : Launch} {e : Env} {R : Room} {s : State} {m : MethodId} {args : Array Value} {below : List Frame} {meth : Method} {c : Code} {H : Heap} {locs : List Loc} {cells slots : Nat} {Q : State → Prop}
variable {cc : ByteArray} {own : String} {wsm : List Cond} {nL : Nat} {D : va_G} {ty : List (ClassId × FieldType)} {z mi : Nat} {A : Nat → Prop} {ws : va_W} {pc : Nat} {ls : Array Slot} {rest st0 : List Value}
theorem kC.x (hC : kC p l s m args meth c cc own wsm nL D ty z mi A) : p.tables.exec = Jvm.exec := hC.1
theorem kC.b (hC : kC p l s m args meth c cc own wsm nL D ty z mi A) : c.code = cc := hC.2.1
theorem kC.nl (hC : kC p l s m args meth c cc own wsm nL D ty z mi A) : c.maxLocals = nL := hC.2.2.1
theorem kC.o (hC : kC p l s m args meth c cc own wsm nL D ty z mi A) : s.vm.findClass own = some m.cls := hC.2.2.2.1
theorem kC.t (hC : kC p l s m args meth c cc own wsm nL D ty z mi A) : ∀ w ∈ wsm, w.before args s = true := hC.2.2.2.2.1
theorem kC.k (hC : kC p l s m args meth c cc own wsm nL D ty z mi A) : meth.locks = false := hC.2.2.2.2.2.1
theorem kC.et (hC : kC p l s m args meth c cc own wsm nL D ty z mi A) : ∀ x ∈ c.exceptionTable.toList, False := hC.2.2.2.2.2.2.1
theorem kC.K (hC : kC p l s m args meth c cc own wsm nL D ty z mi A) : va_K D vwCl ty s := hC.2.2.2.2.2.2.2.1
theorem kC.Z (hC : kC p l s m args meth c cc own wsm nL D ty z mi A) : kZ z mi A s s.heap := hC.2.2.2.2.2.2.2.2.1
theorem kC.up (hC : kC p l s m args meth c cc own wsm nL D ty z mi A) : ∀ q, s.heap.size ≤ q → A q := hC.2.2.2.2.2.2.2.2.2.1
theorem kC.f (hC : kC p l s m args meth c cc own wsm nL D ty z mi A) : l.stackTraces = false := hC.2.2.2.2.2.2.2.2.2.2
theorem k_get {C ref : String} {T : u_T} {N ci index a : Nat} (hC : kC p l s m args meth c cc own wsm nL D ty z mi A) (hG : kG D A s ws H locs) (hin : ∀ w ∈ u_ws C T N, w ∈ wsm) (q0 : Nat) {fs : List Value} (he : ws[q0]? = some (a, .inr (ci, fs))) (hc : vwCl[ci]? = some (C, T, N)) (k : Nat) (hk : k < N) (hlink : Cond.fieldLink own index ref (T k).2.1 (T k).2.2.1 ∈ wsm) (hsame : (T k).1 = ref) {v : Value} (hv : fs[k]? = some v) (hdg : decode cc pc = .ok (.getfield index, 3))
    (kk : W p l e R s m args below meth c H locs cells slots Q (F0 m (pc + 3) ls (v :: rest))) : W p l e R s m args below meth c H locs cells slots Q (F0 m pc ls (.ref a :: rest)) :=
  va_get hC.x hC.b hC.t hin hC.o hC.K hG.1 q0 he hc k hk (hC.t _ hlink) (fun x h => by rw [← hsame]; exact h) hv hdg kk
theorem k_put {C ref : String} {T : u_T} {N ci index a : Nat} (hC : kC p l s m args meth c cc own wsm nL D ty z mi A) (hG : kG D A s ws H locs) (hin : ∀ w ∈ u_ws C T N, w ∈ wsm) {ty0 : Nat → FieldType} (hty : ∀ k, k < N → parseFieldDescriptor (T k).2.2.1 = some (ty0 k)) (hnm : ∀ a, a < N → ∀ b, b < N → a ≠ b → (T a).2.1 ≠ (T b).2.1) (q0 : Nat) {fs : List Value} (he : ws[q0]? = some (a, .inr (ci, fs))) (hc : vwCl[ci]? = some (C, T, N)) (k : Nat) (hk : k < N) (hlink : Cond.fieldLink own index ref (T k).2.1 (T k).2.2.1 ∈ wsm) (hsame : (T k).1 = ref) (hfin : (T k).2.2.2 = false) {v : Value} (hn : narrow (ty0 k) v = v) (hfit : fits (ty0 k) v = true) (hl : k < fs.length) (hdg : decode cc pc = .ok (.putfield index, 3))
    (kk : ∀ (H1 : Heap) (locs1 : List Loc), kG D A s (ws.set q0 (a, .inr (ci, fs.set k v))) H1 locs1 → W p l e R s m args below meth c H1 locs1 cells slots Q (F0 m (pc + 3) ls rest)) : W p l e R s m args below meth c H locs cells slots Q (F0 m pc ls (v :: .ref a :: rest)) :=
  va_put hC.x hC.b hC.t hin ty0 hty hnm hC.o hC.K hG.1 hG.2.1 hG.2.2 q0 he hc k hk (hC.t _ hlink) (fun x h => by rw [← hsame]; exact h) hfin (hty k hk) hn hfit hl hdg (fun H1 locs1 h1 h2 h3 => kk H1 locs1 ⟨h1, h2, h3⟩)
theorem k_putF {C ref : String} {T : u_T} {N ci index a : Nat} (hC : kC p l s m args meth c cc own wsm nL D ty z mi A) (hG : kG D A s ws H locs) (hin : ∀ w ∈ u_ws C T N, w ∈ wsm) {ty0 : Nat → FieldType} (hty : ∀ k, k < N → parseFieldDescriptor (T k).2.2.1 = some (ty0 k)) (hnm : ∀ a, a < N → ∀ b, b < N → a ≠ b → (T a).2.1 ≠ (T b).2.1) (q0 : Nat) {fs : List Value} (he : ws[q0]? = some (a, .inr (ci, fs))) (hc : vwCl[ci]? = some (C, T, N)) (k : Nat) (hk : k < N) (hlink : Cond.fieldLink own index ref (T k).2.1 (T k).2.2.1 ∈ wsm) (hsame : (T k).1 = ref) (hfin : (T k).2.2.2 = true) (hin2 : meth.name = "<init>") (hdecl : (T k).1 = own) {v : Value} (hn : narrow (ty0 k) v = v) (hfit : fits (ty0 k) v = true) (hl : k < fs.length) (hdg : decode cc pc = .ok (.putfield index, 3))
    (kk : ∀ (H1 : Heap) (locs1 : List Loc), kG D A s (ws.set q0 (a, .inr (ci, fs.set k v))) H1 locs1 → W p l e R s m args below meth c H1 locs1 cells slots Q (F0 m (pc + 3) ls rest)) : W p l e R s m args below meth c H locs cells slots Q (F0 m pc ls (v :: .ref a :: rest)) :=
  va_putF hC.x hC.b hC.t hin ty0 hty hnm hC.o hC.K hG.1 hG.2.1 hG.2.2 q0 he hc k hk (hC.t _ hlink) (fun x h => by rw [← hsame]; exact h) hfin hin2 hdecl (hty k hk) hn hfit hl hdg (fun H1 locs1 h1 h2 h3 => kk H1 locs1 ⟨h1, h2, h3⟩)

variable {post : Option Value → va_W → Prop} {XC : String → State → State → Prop} {mc ms : Nat}
theorem k_reti (hC : kC p l s m args meth c cc own wsm nL D ty z mi A) (hr : meth.sig.returnType = some .int) (hG : kG D A s ws H locs) {v : Int32} (hp : post (some (.int v)) ws) (hc : cells ≤ mc) (hs : slots ≤ ms) (hdg : decode cc pc = .ok (.ireturn, 1)) : W p l e R s m args below meth c H locs cells slots (vx_MQ below (kQ D post A) XC args s mc ms A) (F0 m pc ls [.int v]) :=
  W.widen hc hs (vx_ret (W.iret hC.x hC.b hr (fun t ht _ => ⟨⟨_, ws, rfl, hp, by rw [ht]; exact hG.1, hG.2.1⟩, hG.2.2.F ht⟩) hG.2.2.2.2 hdg hC.k))
theorem k_retz (hC : kC p l s m args meth c cc own wsm nL D ty z mi A) (hr : meth.sig.returnType = some .boolean) (hG : kG D A s ws H locs) {v : Int32} (hn : narrow .boolean (.int v) = .int v) (hp : post (some (.int v)) ws) (hc : cells ≤ mc) (hs : slots ≤ ms) (hdg : decode cc pc = .ok (.ireturn, 1)) : W p l e R s m args below meth c H locs cells slots (vx_MQ below (kQ D post A) XC args s mc ms A) (F0 m pc ls [.int v]) :=
  W.widen hc hs (vx_ret (W.zret hC.x hC.b hr hn (fun t ht _ => ⟨⟨_, ws, rfl, hp, by rw [ht]; exact hG.1, hG.2.1⟩, hG.2.2.F ht⟩) hG.2.2.2.2 hdg hC.k))
theorem k_retl (hC : kC p l s m args meth c cc own wsm nL D ty z mi A) (hr : meth.sig.returnType = some .long) (hG : kG D A s ws H locs) {v : Int64} (hp : post (some (.long v)) ws) (hc : cells ≤ mc) (hs : slots ≤ ms) (hdg : decode cc pc = .ok (.lreturn, 1)) : W p l e R s m args below meth c H locs cells slots (vx_MQ below (kQ D post A) XC args s mc ms A) (F0 m pc ls [.long v]) :=
  W.widen hc hs (vx_ret (W.lret hC.x hC.b hr (fun t ht _ => ⟨⟨_, ws, rfl, hp, by rw [ht]; exact hG.1, hG.2.1⟩, hG.2.2.F ht⟩) hG.2.2.2.2 hdg hC.k))
theorem k_retv (hC : kC p l s m args meth c cc own wsm nL D ty z mi A) (hr : meth.sig.returnType = none) (hG : kG D A s ws H locs) (hp : post none ws) (hc : cells ≤ mc) (hs : slots ≤ ms) (hdg : decode cc pc = .ok (.return_, 1)) : W p l e R s m args below meth c H locs cells slots (vx_MQ below (kQ D post A) XC args s mc ms A) (F0 m pc ls []) :=
  W.widen hc hs (vx_ret (W.vret hC.x hC.b hr (fun t ht _ => ⟨⟨_, ws, rfl, hp, by rw [ht]; exact hG.1, hG.2.1⟩, hG.2.2.F ht⟩) hG.2.2.2.2 hdg hC.k))
theorem k_reta (hC : kC p l s m args meth c cc own wsm nL D ty z mi A) {rt : FieldType} (hr : meth.sig.returnType = some rt) (hrt : (∃ n, rt = .object n) ∨ ∃ t, rt = .array t) (hG : kG D A s ws H locs) {v : Option Nat} (hp : post (some (va_rf v)) ws) (hc : cells ≤ mc) (hs : slots ≤ ms) (hdg : decode cc pc = .ok (.areturn, 1)) : W p l e R s m args below meth c H locs cells slots (vx_MQ below (kQ D post A) XC args s mc ms A) (F0 m pc ls [va_rf v]) :=
  W.widen hc hs (vx_ret (W.aret hC.x hC.b hr hrt (by cases v; exact Or.inl rfl; exact Or.inr ⟨_, rfl⟩) (fun t ht _ => ⟨⟨_, ws, rfl, hp, by rw [ht]; exact hG.1, hG.2.1⟩, hG.2.2.F ht⟩) hG.2.2.2.2 hdg hC.k))
/-- a call's run, its two ways on -/
theorem k_run {cmc cms : Nat} {a9 : Array Value} {pst : Option Value → va_W → Prop} {px : String → va_W → Prop} (hC : kC p l s m args meth c cc own wsm nL D ty z mi A) (hG : kG D A s ws H locs)
    (hr : vx_Run p l e R s m args below meth c H locs cells slots cmc cms (F0 m pc ls st0) rest (kQ D pst (va_A ws H.size) a9) (kXx D px (va_A ws H.size)) (va_A ws H.size))
    (kx : ∀ (E : String) (ce : Cell) (q9 : Addr) (u : va_W) (H1 : Heap) (locs1 : List Loc), px E u → kG D A s u H1 locs1 → H1[q9]? = some ce → ce.vm = .none → s.vm.findClass E = some ce.cls → vx_W p l e R s m args below meth c H1 locs1 (cells + cmc) (slots + cms) Q (F0 m pc ls rest) q9)
    (kk : ∀ (v : Option Value) (u : va_W) (H1 : Heap) (locs1 : List Loc), pst v u → kG D A s u H1 locs1 → W p l e R s m args below meth c H1 locs1 (cells + cmc) (slots + cms) Q (F0 m (pc + 3) ls (v.toList ++ rest))) : W p l e R s m args below meth c H locs cells slots Q (F0 m pc ls st0) := by
  have hf := hG.sub hC.up
  intro T hT X
  rcases hr T hT X with ⟨v, st₀, t, T', L, h0, X', hL, e1, e2, ⟨⟨v', u, hv, hp, hP1, hD1⟩, hF⟩, st⟩ | ⟨q, st₀, t, T', L, E, ce, h0, X', hL, e1, e2, ⟨u, hp, hP1, hD1, hF⟩, hce, hcv, hcl, st⟩
  · cases hv
    obtain ⟨k1, k2, k3⟩ := vx_keep h0 e1 hG.2.2 (fun q _ h => hf q h) hf hL hF
    obtain ⟨t2, a1, b1⟩ := kk v u T'.heap (locs ++ L) hp ⟨by rw [e1]; exact hP1, hD1.weaken (fun k q _ h => hf q.1 h), k3⟩ T' rfl X'
    exact ⟨t2, st t2 a1, b1⟩
  · obtain ⟨k1, k2, k3⟩ := vx_keep h0 e1 hG.2.2 (fun q _ h => hf q h) hf hL hF
    obtain ⟨t2, a1, b1⟩ := kx E ce q u T'.heap (locs ++ L) hp ⟨by rw [e1]; exact hP1, hD1.weaken (fun k q _ h => hf q.1 h), k3⟩ (by rw [e1]; exact hce) hcv hcl T' rfl X'
    exact ⟨t2, st.trans a1, b1⟩
/-- the world as the callee wants it -/
theorem k_pre (hC : kC p l s m args meth c cc own wsm nL D ty z mi A) (hG : kG D A s ws H locs) {av : List Value} : ∀ U : State, U.heap = H → s.WarmedH U.vm → kP D ty z mi av ws H.size av.toArray U := by
  intro U hU hW
  refine ⟨rfl, by rw [hU], by rw [hU]; exact hG.1, va_K.moved hW.alike hC.K, hG.2.1.self, ?_⟩
  exact hC.Z.to hG.2.2 (hG.sub hC.up) hW hU
variable {y : MethodName} {bytes : ByteArray} {maxL n index b ci q0 : Nat} {ret : Option FieldType} {wsc wsc' : List Cond} {rm : Room} {As : List Value} {pst : Option Value → va_W → Prop} {px : String → va_W → Prop} {C : String} {T0 : u_T} {N0 : Nat} {fs : List Value} {wss : va_W}
abbrev k_dsc (y : MethodName) (n : Nat) : Prop := y.cls ≠ "java/lang/invoke/MethodHandle" ∧ y.cls ≠ "java/lang/invoke/VarHandle" ∧ (parseMethodDescriptor y.desc).map (fun d => d.parameters.length) = some n
abbrev k_fit (rm R : Room) (maxL : Nat) : Prop := rm.frames + 1 ≤ R.frames ∧ 8 + (maxL + 11) + rm.locals ≤ R.locals
theorem k_callS (hC : kC p l s m args meth c cc own wsm nL D ty z mi A) (hG : kG D A s ws H locs) (hM : kM l D ty z mi y wsc rm As ws pst px) (hg : GoodIn wsm (va_wsS own index y wsc)) (hw : wsc = Cond.code y bytes maxL ret :: wsc') (hd : k_dsc y As.length) (hR : k_fit rm R maxL) (hls : ls.size = nL) (hst : st0 = As.reverse ++ rest) (hcat : (rest.map fun v => v.category).sum ≤ 8) (hdg : decode cc pc = .ok (.invokestatic index, 3)) (hf : cells + rm.cells ≤ R.cells ∧ slots + rm.slots ≤ R.slots)
    (kx : ∀ (E : String) (ce : Cell) (q9 : Addr) (u : va_W) (H1 : Heap) (locs1 : List Loc), px E u → kG D A s u H1 locs1 → H1[q9]? = some ce → ce.vm = .none → s.vm.findClass E = some ce.cls → vx_W p l e R s m args below meth c H1 locs1 (cells + rm.cells) (slots + rm.slots) Q (F0 m pc ls rest) q9)
    (kk : ∀ (v : Option Value) (u : va_W) (H1 : Heap) (locs1 : List Loc), pst v u → kG D A s u H1 locs1 → W p l e R s m args below meth c H1 locs1 (cells + rm.cells) (slots + rm.slots) Q (F0 m (pc + 3) ls (v.toList ++ rest))) : W p l e R s m args below meth c H locs cells slots Q (F0 m pc ls st0) :=
  k_run hC hG (vx_runS (g := F0 m pc ls st0) ⟨hC.x, hC.b, hC.nl, hC.o, hC.t⟩ (hM H.size) (va_cwS As.length hC.t hg hw rfl rfl hd hR) ⟨kP.blind, k_pre hC hG⟩ rfl rfl hls hst (lv_room (m := m) (pc := pc) (ls := ls) (rest := st0) hcat) hdg hf) kx kk
theorem k_callV (hC : kC p l s m args meth c cc own wsm nL D ty z mi A) (hG : kG D A s ws H locs) (q0 : Nat) (he : ws[q0]? = some (b, .inr (ci, fs))) (hc : vwCl[ci]? = some (C, T0, N0)) (hM : kM l D ty z mi y wsc rm (.ref b :: As) ws pst px) (hg : GoodIn wsm (wsV own index C y wsc)) (hw : wsc = Cond.code y bytes maxL ret :: wsc') (hd : y.cls = C ∧ k_dsc y As.length) (hR : k_fit rm R maxL) (hls : ls.size = nL) (hst : st0 = As.reverse ++ .ref b :: rest) (hcat : (rest.map fun v => v.category).sum ≤ 8) (hdg : decode cc pc = .ok (.invokevirtual index, 3)) (hf : cells + rm.cells ≤ R.cells ∧ slots + rm.slots ≤ R.slots)
    (kx : ∀ (E : String) (ce : Cell) (q9 : Addr) (u : va_W) (H1 : Heap) (locs1 : List Loc), px E u → kG D A s u H1 locs1 → H1[q9]? = some ce → ce.vm = .none → s.vm.findClass E = some ce.cls → vx_W p l e R s m args below meth c H1 locs1 (cells + rm.cells) (slots + rm.slots) Q (F0 m pc ls rest) q9)
    (kk : ∀ (v : Option Value) (u : va_W) (H1 : Heap) (locs1 : List Loc), pst v u → kG D A s u H1 locs1 → W p l e R s m args below meth c H1 locs1 (cells + rm.cells) (slots + rm.slots) Q (F0 m (pc + 3) ls (v.toList ++ rest))) : W p l e R s m args below meth c H locs cells slots Q (F0 m pc ls st0) :=
  k_run hC hG (vx_runV (g := F0 m pc ls st0) ⟨hC.x, hC.b, hC.nl, hC.o, hC.t⟩ (hM H.size) (cwV As.length hC.t hg hw rfl rfl hd hR) ⟨kP.blind, va_recv hC.K hG.1 hc he, k_pre hC hG⟩ rfl rfl hls hst (lv_room (m := m) (pc := pc) (ls := ls) (rest := st0) hcat) hdg hf) kx kk
theorem k_callI (hC : kC p l s m args meth c cc own wsm nL D ty z mi A) (hG : kG D A s ws H locs) (hM : kM l D ty z mi y wsc rm (.ref b :: As) ws pst px) (hg : GoodIn wsm wsc) (hl : Cond.methodLink own index y ∈ wsm) (hin : Cond.instanceMethod y ∈ wsm) (hini : Cond.initialized y.cls ∈ wsm) (hw : wsc = Cond.code y bytes maxL none :: wsc') (hd : y.name = "<init>" ∧ k_dsc y As.length) (hR : k_fit rm R maxL) (hls : ls.size = nL) (hst : st0 = As.reverse ++ .ref b :: rest) (hcat : (rest.map fun v => v.category).sum ≤ 8) (hdg : decode cc pc = .ok (.invokespecial index, 3)) (hf : cells + rm.cells ≤ R.cells ∧ slots + rm.slots ≤ R.slots)
    (kx : ∀ (E : String) (ce : Cell) (q9 : Addr) (u : va_W) (H1 : Heap) (locs1 : List Loc), px E u → kG D A s u H1 locs1 → H1[q9]? = some ce → ce.vm = .none → s.vm.findClass E = some ce.cls → vx_W p l e R s m args below meth c H1 locs1 (cells + rm.cells) (slots + rm.slots) Q (F0 m pc ls rest) q9)
    (kk : ∀ (v : Option Value) (u : va_W) (H1 : Heap) (locs1 : List Loc), pst v u → kG D A s u H1 locs1 → W p l e R s m args below meth c H1 locs1 (cells + rm.cells) (slots + rm.slots) Q (F0 m (pc + 3) ls (v.toList ++ rest))) : W p l e R s m args below meth c H locs cells slots Q (F0 m pc ls st0) :=
  k_run hC hG (vx_runI (g := F0 m pc ls st0) ⟨hC.x, hC.b, hC.nl, hC.o, hC.t⟩ (hM H.size) (cwI As.length hC.t hg hw rfl rfl (hC.t _ hini) (hC.t _ hl) (hC.t _ hin) hd.1 hd.2 hR) ⟨kP.blind, k_pre hC hG⟩ rfl rfl hls hst (lv_room (m := m) (pc := pc) (ls := ls) (rest := st0) hcat) hdg hf) kx kk
/-- 'throw new E("text")' of this class's own text -/
theorem k_throw {cls text : String} {ik is ic : Nat} {Qc : Array Value → State → Outcome → State → Prop} (hC : kC p l s m args meth c cc own wsm nL D ty z mi A) (hG : kG D A s ws H locs) (ho : own = RX3) (hcls : Bundle.fit cls = true ∧ (∀ n ∈ ["java/lang/RuntimeException", "java/lang/Exception"], Bundle.fit n = true)) (hk : Cond.classLink own ik cls ∈ wsm) (hini : Cond.initialized cls ∈ wsm) (htx : (is, text) ∈ kTexts)
    (hat1 : ∀ w ∈ (vx_atS own ic cls ["java/lang/RuntimeException", "java/lang/Exception"]).filter goodWord, w ∈ wsm) (hat2 : ∀ w ∈ (vx_atS own ic cls ["java/lang/RuntimeException", "java/lang/Exception"]).filter (fun w => !goodWord w), w ∈ kBad)
    (hgood : ∀ w ∈ Cond.classLink own ik cls :: Cond.initialized cls :: vx_atS own ic cls ["java/lang/RuntimeException", "java/lang/Exception"], vx_ot w = true) (hls : ls.size = nL)
    (d0 : decode cc pc = .ok (.new ik, 3)) (d3 : decode cc (pc + 3) = .ok (.dup, 1)) (d4 : decode cc (pc + 4) = .ok (.ldc is, 2)) (d6 : decode cc (pc + 6) = .ok (.invokespecial ic, 3)) (d9 : decode cc (pc + 9) = .ok (.athrow, 1))
    (hR : 5 < R.frames ∧ (rest.map fun v => v.category).sum + 82 ≤ R.locals) (hf : cells + 1 ≤ R.cells ∧ slots + 6 ≤ R.slots) (hm : cells + 1 ≤ mc ∧ slots + 6 ≤ ms) {px : String → va_W → Prop} (hx : px cls ws) :
    W p l e R s m args below meth c H locs cells slots (vx_MQ below Qc (kXx D px A) args s mc ms A) (F0 m pc ls rest) := by
  subst ho
  obtain ⟨sa, hsa⟩ := hC.Z.1 _ htx
  refine vx_throwS (text := text) (names := ["java/lang/RuntimeException", "java/lang/Exception"]) hC.x hC.b hC.f hC.o hcls.1 hcls.2 (hC.t _ hk) (hC.t _ hini) hsa (vx_hat (fun w h => hC.t w (hat1 w h)) hat2 (fun w h => va_Nw.use (by
    have := kBad_ok w h
    cases w <;> first | rfl | exact absurd (show false = true from this) (by decide)) (hC.Z.2.1.1 w h))) hgood hC.Z.2.2.1 hC.Z.2.2.2.1 hG.2.2 (hls.trans hC.nl.symm) d0 d3 d4 d6 d9 (fun x h => (hC.et x h).elim) hR.1 hR.2 hf.1 hf.2 hC.k ?_ hG.2.2.2.2 hm.1 hm.2
  intro t hvm hz hq
  refine ⟨ws, hx, hG.1.kept (fun k q hk => hq q.1 ((hG.1 k q hk).lt)), hG.2.1, Nat.le_trans hG.2.2.1 hz, fun q h1 h2 => ?_⟩
  rw [hq q (Nat.lt_of_lt_of_le h1 hG.2.2.1)]
  exact hG.2.2.2.1 q h1 h2
end KB2
end
section
/-! ===== truth values as numbers, and rows over them ===== -/
def kb (b : Bool) : Int32 := if b then 1 else 0
theorem kb_f {b : Bool} (h : kb b = 0) : b = false := by
  cases b with
  | false => rfl
  | true => exact absurd h (by decide)
theorem kb_t {b : Bool} (h : ¬ kb b = 0) : b = true := by
  cases b with
  | false => exact absurd rfl h
  | true => rfl
theorem kb_nar (b : Bool) : narrow .boolean (.int (kb b)) = .int (kb b) := by cases b <;> rfl
theorem kb_and (b : Bool) : kb b &&& 1 = kb b := by cases b <;> rfl
theorem k_catq (v : Option Nat) : (va_rf v).category = 1 := by cases v <;> rfl
theorem k_narq (v : Option Nat) {ty : FieldType} (h : (match ty with | .object _ => true | .array _ => true | _ => false) = true) : narrow ty (va_rf v) = va_rf v := by
  cases v <;> cases ty <;> first | rfl | exact absurd h (by decide)
theorem k_fitq (v : Option Nat) {ty : FieldType} (h : (match ty with | .object _ => true | .array _ => true | _ => false) = true) : fits ty (va_rf v) = true := by
  cases v <;> cases ty <;> first | rfl | exact absurd h (by decide)
section KB3
variable {p : Program} {l : Launch} {e : Env} {R : Room} {s : State} {m : MethodId} {args : Array Value} {below : List Frame} {meth : Method} {c : Code} {H : Heap} {locs : List Loc} {cells slots : Nat} {Q : State → Prop}
variable {cc : ByteArray} {pc : Nat} {ls : Array Slot} {rest : List Value}
theorem k_topi {x y : Int32} (h : x = y) (k : W p l e R s m args below meth c H locs cells slots Q (F0 m pc ls (.int y :: rest))) : W p l e R s m args below meth c H locs cells slots Q (F0 m pc ls (.int x :: rest)) := h ▸ k
theorem k_topl {x y : Int64} (h : x = y) (k : W p l e R s m args below meth c H locs cells slots Q (F0 m pc ls (.long y :: rest))) : W p l e R s m args below meth c H locs cells slots Q (F0 m pc ls (.long x :: rest)) := h ▸ k
theorem k_topq {x y : Option Nat} (h : x = y) (k : W p l e R s m args below meth c H locs cells slots Q (F0 m pc ls (va_rf y :: rest))) : W p l e R s m args below meth c H locs cells slots Q (F0 m pc ls (va_rf x :: rest)) := h ▸ k
theorem k_ifB_eq (hexec : p.tables.exec = Jvm.exec) (hb : c.code = cc) {b : Bool} {off : Int} {tgt : Nat} (hdg : decode cc pc = .ok (.ifCond .eq off, 3)) (ht : (pc : Int) + off = (tgt : Int))
    (kt : b = false → W p l e R s m args below meth c H locs cells slots Q (F0 m tgt ls rest)) (kf : b = true → W p l e R s m args below meth c H locs cells slots Q (F0 m (pc + 3) ls rest)) : W p l e R s m args below meth c H locs cells slots Q (F0 m pc ls (.int (kb b) :: rest)) :=
  lv_if_eq hexec hb hdg ht (fun h => kt (kb_f h)) (fun h => kf (kb_t h))
theorem k_ifB_ne (hexec : p.tables.exec = Jvm.exec) (hb : c.code = cc) {b : Bool} {off : Int} {tgt : Nat} (hdg : decode cc pc = .ok (.ifCond .ne off, 3)) (ht : (pc : Int) + off = (tgt : Int))
    (kt : b = true → W p l e R s m args below meth c H locs cells slots Q (F0 m tgt ls rest)) (kf : b = false → W p l e R s m args below meth c H locs cells slots Q (F0 m (pc + 3) ls rest)) : W p l e R s m args below meth c H locs cells slots Q (F0 m pc ls (.int (kb b) :: rest)) :=
  lv_if_ne hexec hb hdg ht (fun h => kt (kb_t h)) (fun h => kf (kb_f h))
theorem k_if_eq (hexec : p.tables.exec = Jvm.exec) (hb : c.code = cc) {x : Int32} {off : Int} {tgt : Nat} (hdg : decode cc pc = .ok (.ifCond .eq off, 3)) (ht : (pc : Int) + off = (tgt : Int))
    (kt : decide (x = 0) = true → W p l e R s m args below meth c H locs cells slots Q (F0 m tgt ls rest)) (kf : decide (x = 0) = false → W p l e R s m args below meth c H locs cells slots Q (F0 m (pc + 3) ls rest)) : W p l e R s m args below meth c H locs cells slots Q (F0 m pc ls (.int x :: rest)) :=
  lv_if_eq hexec hb hdg ht (fun h => kt (decide_eq_true h)) (fun h => kf (decide_eq_false h))
theorem k_if_ne (hexec : p.tables.exec = Jvm.exec) (hb : c.code = cc) {x : Int32} {off : Int} {tgt : Nat} (hdg : decode cc pc = .ok (.ifCond .ne off, 3)) (ht : (pc : Int) + off = (tgt : Int))
    (kt : decide (x = 0) = false → W p l e R s m args below meth c H locs cells slots Q (F0 m tgt ls rest)) (kf : decide (x = 0) = true → W p l e R s m args below meth c H locs cells slots Q (F0 m (pc + 3) ls rest)) : W p l e R s m args below meth c H locs cells slots Q (F0 m pc ls (.int x :: rest)) :=
  lv_if_ne hexec hb hdg ht (fun h => kt (decide_eq_false h)) (fun h => kf (decide_eq_true (Decidable.not_not.mp (fun q => q h))))
theorem k_if_lt (hexec : p.tables.exec = Jvm.exec) (hb : c.code = cc) {x : Int32} {off : Int} {tgt : Nat} (hdg : decode cc pc = .ok (.ifCond .lt off, 3)) (ht : (pc : Int) + off = (tgt : Int))
    (kt : decide (x < 0) = true → W p l e R s m args below meth c H locs cells slots Q (F0 m tgt ls rest)) (kf : decide (x < 0) = false → W p l e R s m args below meth c H locs cells slots Q (F0 m (pc + 3) ls rest)) : W p l e R s m args below meth c H locs cells slots Q (F0 m pc ls (.int x :: rest)) :=
  lv_if_lt hexec hb hdg ht (fun h => kt (decide_eq_true h)) (fun h => kf (decide_eq_false h))
theorem k_if_ge (hexec : p.tables.exec = Jvm.exec) (hb : c.code = cc) {x : Int32} {off : Int} {tgt : Nat} (hdg : decode cc pc = .ok (.ifCond .ge off, 3)) (ht : (pc : Int) + off = (tgt : Int))
    (kt : decide (0 ≤ x) = true → W p l e R s m args below meth c H locs cells slots Q (F0 m tgt ls rest)) (kf : decide (0 ≤ x) = false → W p l e R s m args below meth c H locs cells slots Q (F0 m (pc + 3) ls rest)) : W p l e R s m args below meth c H locs cells slots Q (F0 m pc ls (.int x :: rest)) :=
  lv_if_ge hexec hb hdg ht (fun h => kt (decide_eq_true h)) (fun h => kf (decide_eq_false h))
theorem k_if_gt (hexec : p.tables.exec = Jvm.exec) (hb : c.code = cc) {x : Int32} {off : Int} {tgt : Nat} (hdg : decode cc pc = .ok (.ifCond .gt off, 3)) (ht : (pc : Int) + off = (tgt : Int))
    (kt : decide (0 < x) = true → W p l e R s m args below meth c H locs cells slots Q (F0 m tgt ls rest)) (kf : decide (0 < x) = false → W p l e R s m args below meth c H locs cells slots Q (F0 m (pc + 3) ls rest)) : W p l e R s m args below meth c H locs cells slots Q (F0 m pc ls (.int x :: rest)) :=
  lv_if_gt hexec hb hdg ht (fun h => kt (decide_eq_true h)) (fun h => kf (decide_eq_false h))
theorem k_if_le (hexec : p.tables.exec = Jvm.exec) (hb : c.code = cc) {x : Int32} {off : Int} {tgt : Nat} (hdg : decode cc pc = .ok (.ifCond .le off, 3)) (ht : (pc : Int) + off = (tgt : Int))
    (kt : decide (x ≤ 0) = true → W p l e R s m args below meth c H locs cells slots Q (F0 m tgt ls rest)) (kf : decide (x ≤ 0) = false → W p l e R s m args below meth c H locs cells slots Q (F0 m (pc + 3) ls rest)) : W p l e R s m args below meth c H locs cells slots Q (F0 m pc ls (.int x :: rest)) :=
  lv_if_le hexec hb hdg ht (fun h => kt (decide_eq_true h)) (fun h => kf (decide_eq_false h))
theorem k_icmp_eq (hexec : p.tables.exec = Jvm.exec) (hb : c.code = cc) {x y : Int32} {off : Int} {tgt : Nat} (hdg : decode cc pc = .ok (.if_icmp .eq off, 3)) (ht : (pc : Int) + off = (tgt : Int))
    (kt : decide (x = y) = true → W p l e R s m args below meth c H locs cells slots Q (F0 m tgt ls rest)) (kf : decide (x = y) = false → W p l e R s m args below meth c H locs cells slots Q (F0 m (pc + 3) ls rest)) : W p l e R s m args below meth c H locs cells slots Q (F0 m pc ls (.int y :: .int x :: rest)) :=
  lv_icmp_eq hexec hb hdg ht (fun h => kt (decide_eq_true h)) (fun h => kf (decide_eq_false h))
theorem k_icmp_ne (hexec : p.tables.exec = Jvm.exec) (hb : c.code = cc) {x y : Int32} {off : Int} {tgt : Nat} (hdg : decode cc pc = .ok (.if_icmp .ne off, 3)) (ht : (pc : Int) + off = (tgt : Int))
    (kt : decide (x = y) = false → W p l e R s m args below meth c H locs cells slots Q (F0 m tgt ls rest)) (kf : decide (x = y) = true → W p l e R s m args below meth c H locs cells slots Q (F0 m (pc + 3) ls rest)) : W p l e R s m args below meth c H locs cells slots Q (F0 m pc ls (.int y :: .int x :: rest)) :=
  lv_icmp_ne hexec hb hdg ht (fun h => kt (decide_eq_false h)) (fun h => kf (decide_eq_true h))
theorem k_icmp_lt (hexec : p.tables.exec = Jvm.exec) (hb : c.code = cc) {x y : Int32} {off : Int} {tgt : Nat} (hdg : decode cc pc = .ok (.if_icmp .lt off, 3)) (ht : (pc : Int) + off = (tgt : Int))
    (kt : decide (x < y) = true → W p l e R s m args below meth c H locs cells slots Q (F0 m tgt ls rest)) (kf : decide (x < y) = false → W p l e R s m args below meth c H locs cells slots Q (F0 m (pc + 3) ls rest)) : W p l e R s m args below meth c H locs cells slots Q (F0 m pc ls (.int y :: .int x :: rest)) :=
  lv_icmp_lt hexec hb hdg ht (fun h => kt (decide_eq_true h)) (fun h => kf (decide_eq_false h))
theorem k_icmp_ge (hexec : p.tables.exec = Jvm.exec) (hb : c.code = cc) {x y : Int32} {off : Int} {tgt : Nat} (hdg : decode cc pc = .ok (.if_icmp .ge off, 3)) (ht : (pc : Int) + off = (tgt : Int))
    (kt : decide (y ≤ x) = true → W p l e R s m args below meth c H locs cells slots Q (F0 m tgt ls rest)) (kf : decide (y ≤ x) = false → W p l e R s m args below meth c H locs cells slots Q (F0 m (pc + 3) ls rest)) : W p l e R s m args below meth c H locs cells slots Q (F0 m pc ls (.int y :: .int x :: rest)) :=
  lv_icmp_ge hexec hb hdg ht (fun h => kt (decide_eq_true h)) (fun h => kf (decide_eq_false h))
theorem k_icmp_gt (hexec : p.tables.exec = Jvm.exec) (hb : c.code = cc) {x y : Int32} {off : Int} {tgt : Nat} (hdg : decode cc pc = .ok (.if_icmp .gt off, 3)) (ht : (pc : Int) + off = (tgt : Int))
    (kt : decide (y < x) = true → W p l e R s m args below meth c H locs cells slots Q (F0 m tgt ls rest)) (kf : decide (y < x) = false → W p l e R s m args below meth c H locs cells slots Q (F0 m (pc + 3) ls rest)) : W p l e R s m args below meth c H locs cells slots Q (F0 m pc ls (.int y :: .int x :: rest)) :=
  lv_icmp_gt hexec hb hdg ht (fun h => kt (decide_eq_true h)) (fun h => kf (decide_eq_false h))
theorem k_icmp_le (hexec : p.tables.exec = Jvm.exec) (hb : c.code = cc) {x y : Int32} {off : Int} {tgt : Nat} (hdg : decode cc pc = .ok (.if_icmp .le off, 3)) (ht : (pc : Int) + off = (tgt : Int))
    (kt : decide (x ≤ y) = true → W p l e R s m args below meth c H locs cells slots Q (F0 m tgt ls rest)) (kf : decide (x ≤ y) = false → W p l e R s m args below meth c H locs cells slots Q (F0 m (pc + 3) ls rest)) : W p l e R s m args below meth c H locs cells slots Q (F0 m pc ls (.int y :: .int x :: rest)) :=
  lv_icmp_le hexec hb hdg ht (fun h => kt (decide_eq_true h)) (fun h => kf (decide_eq_false h))
/-- references that may be null: loads, stores, tests -/
theorem k_acmp_eq (hexec : p.tables.exec = Jvm.exec) (hb : c.code = cc) {rx ry : Option Nat} {off : Int} {tgt : Nat} (hdg : decode cc pc = .ok (.if_acmp .eq off, 3)) (ht : (pc : Int) + off = (tgt : Int))
    (kt : decide (rx = ry) = true → W p l e R s m args below meth c H locs cells slots Q (F0 m tgt ls rest)) (kf : decide (rx = ry) = false → W p l e R s m args below meth c H locs cells slots Q (F0 m (pc + 3) ls rest)) : W p l e R s m args below meth c H locs cells slots Q (F0 m pc ls (va_rf ry :: va_rf rx :: rest)) :=
  lv_acmp_eq hexec hb hdg ht (fun h => kt (decide_eq_true h)) (fun h => kf (decide_eq_false h))
theorem k_acmp_ne (hexec : p.tables.exec = Jvm.exec) (hb : c.code = cc) {rx ry : Option Nat} {off : Int} {tgt : Nat} (hdg : decode cc pc = .ok (.if_acmp .ne off, 3)) (ht : (pc : Int) + off = (tgt : Int))
    (kt : decide (rx = ry) = false → W p l e R s m args below meth c H locs cells slots Q (F0 m tgt ls rest)) (kf : decide (rx = ry) = true → W p l e R s m args below meth c H locs cells slots Q (F0 m (pc + 3) ls rest)) : W p l e R s m args below meth c H locs cells slots Q (F0 m pc ls (va_rf ry :: va_rf rx :: rest)) :=
  lv_acmp_ne hexec hb hdg ht (fun h => kt (decide_eq_false h)) (fun h => kf (decide_eq_true h))
theorem k_ifnull (hexec : p.tables.exec = Jvm.exec) (hb : c.code = cc) {x : Option Nat} {off : Int} {tgt : Nat} (hdg : decode cc pc = .ok (.ifnull off, 3)) (ht : (pc : Int) + off = (tgt : Int))
    (kt : x.isSome = false → W p l e R s m args below meth c H locs cells slots Q (F0 m tgt ls rest)) (kf : x.isSome = true → W p l e R s m args below meth c H locs cells slots Q (F0 m (pc + 3) ls rest)) : W p l e R s m args below meth c H locs cells slots Q (F0 m pc ls (va_rf x :: rest)) := by
  cases x with
  | none => exact lv_ifnullN hexec hb hdg ht (kt rfl)
  | some a => exact lv_ifnull hexec hb hdg (kf rfl)
theorem k_ifnonnull (hexec : p.tables.exec = Jvm.exec) (hb : c.code = cc) {x : Option Nat} {off : Int} {tgt : Nat} (hdg : decode cc pc = .ok (.ifnonnull off, 3)) (ht : (pc : Int) + off = (tgt : Int))
    (kt : x.isSome = true → W p l e R s m args below meth c H locs cells slots Q (F0 m tgt ls rest)) (kf : x.isSome = false → W p l e R s m args below meth c H locs cells slots Q (F0 m (pc + 3) ls rest)) : W p l e R s m args below meth c H locs cells slots Q (F0 m pc ls (va_rf x :: rest)) := by
  cases x with
  | none => exact lv_ifnonnullN hexec hb hdg (kf rfl)
  | some a => exact lv_ifnonnull hexec hb hdg ht (kt rfl)
end KB3
section KB4
variable {p : Program} {l : Launch} {e : Env} {R : Room} {s : State} {m : MethodId} {args : Array Value} {below : List Frame} {meth : Method} {c : Code} {H : Heap} {locs : List Loc} {cells slots : Nat} {Q : State → Prop}
variable {cc : ByteArray} {own : String} {wsm : List Cond} {nL : Nat} {D : va_G} {ty : List (ClassId × FieldType)} {z mi : Nat} {A : Nat → Prop} {ws : va_W} {pc : Nat} {ls : Array Slot} {rest : List Value} {mc ms : Nat}
/-- a truth value or a number made on several ways -/
theorem k_join {α : Type} (F : α → JFrame) (P : α → Prop) {g : JFrame} (J : ∀ v : α, P v → W p l e R s m args below meth c H locs cells slots Q (F v)) (K : (∀ v : α, P v → W p l e R s m args below meth c H locs cells slots Q (F v)) → W p l e R s m args below meth c H locs cells slots Q g) : W p l e R s m args below meth c H locs cells slots Q g := K J
/-- not caught here -/
theorem k_out {E : String} {ce : Cell} {q : Addr} {Qc : Array Value → State → Outcome → State → Prop} {px : String → va_W → Prop} (hC : kC p l s m args meth c cc own wsm nL D ty z mi A) (hG : kG D A s ws H locs) (h1 : H[q]? = some ce) (h2 : ce.vm = .none) (h3 : s.vm.findClass E = some ce.cls) (hx : px E ws) (hc : cells ≤ mc) (hs : slots ≤ ms) :
    vx_W p l e R s m args below meth c H locs cells slots (vx_MQ below Qc (kXx D px A) args s mc ms A) (F0 m pc ls rest) q :=
  vx_out (fun x h => (hC.et x h).elim) hC.k h1 h2 h3 (fun t ht _ => ⟨ws, hx, by rw [ht]; exact hG.1, hG.2.1, hG.2.2.F ht⟩) hG.2.2.2.2 hc hs
end KB4
/-- within its range -/
def kIn (x a b : Int32) : Bool := !decide (x < a) && !decide (b < x)
end
section
theorem k_nlt {x b : Int32} (h : decide (x ≤ b) = true) : decide (b < x) = false := decide_eq_false (fun q => absurd (of_decide_eq_true h) (Int32.not_le.mpr q))
theorem k_nle {x b : Int32} (h : decide (x ≤ b) = false) : decide (b < x) = true := decide_eq_true (Int32.not_le.mp (of_decide_eq_false h))
set_option maxHeartbeats 4000000 in
set_option maxRecDepth 100000 in
/-- checkRange: nothing, or it throws -/
theorem K_X3_checkRange (l : Launch) (hfl : l.stackTraces = false) (D : va_G) (cI cJ cZ cO : ClassId) (z mi : Nat) (ws : va_W) (x a b : Int32) : kM l D (kTy cI cJ cZ cO) z mi yX3_checkRange wsX3_checkRange ({ frames := 6, cells := 1, slots := 6, locals := 90 } : Room) [.int x, .int a, .int b] (ws) (fun v u => v = none ∧ u = ws ∧ kIn x a b = true) (fun E u => E = kIAE ∧ u = ws ∧ kIn x a b = false) := by
  refine kM.of hfl (cc := cX3_checkRange) (maxL := 3) (ret := none) (by decide) rfl (Nat.le_of_ble_eq_true rfl) ?_
  intro p e s m args below meth c A ls hC hr hmn hG hl
  have hx := hC.x
  have hb := hC.b
  have hl : lv_has ls 3 [(0, .int x), (1, .int a), (2, .int b)] := hl
  refine lv_iload_n hx hb dX3_checkRange_0 rfl (lv_at hl 0 rfl) ?_
  refine lv_iload_n hx hb dX3_checkRange_1 rfl (lv_at hl 1 rfl) ?_
  refine k_icmp_lt (tgt := 10) hx hb dX3_checkRange_2 (by decide) (fun c_1 => ?_) (fun c_1 => ?_)
  · exact k_throw (text := "out of its range") (is := 192) (ic := 194) (cls := "java/lang/IllegalArgumentException") hC hG rfl (by decide +kernel) (List.mem_of_getElem? (i := 1) rfl) (List.mem_of_getElem? (i := 2) rfl) (by decide) (fun w h => List.mem_cons_of_mem _ (List.mem_append_right _ h)) (by decide +kernel) (by decide +kernel) hl.1 dX3_checkRange_10 dX3_checkRange_13 dX3_checkRange_14 dX3_checkRange_16 dX3_checkRange_19 ⟨(Nat.le_of_ble_eq_true rfl), (Nat.le_of_ble_eq_true rfl)⟩ ⟨(Nat.le_of_ble_eq_true rfl), (Nat.le_of_ble_eq_true rfl)⟩ ⟨(Nat.le_of_ble_eq_true rfl), (Nat.le_of_ble_eq_true rfl)⟩ (⟨rfl, rfl, by unfold kIn; rw [c_1]; rfl⟩)
  · refine lv_iload_n hx hb dX3_checkRange_5 rfl (lv_at hl 0 rfl) ?_
    refine lv_iload_n hx hb dX3_checkRange_6 rfl (lv_at hl 2 rfl) ?_
    refine k_icmp_le (tgt := 20) hx hb dX3_checkRange_7 (by decide) (fun c_2 => ?_) (fun c_2 => ?_)
    · exact k_retv hC hr hG ⟨rfl, rfl, by unfold kIn; rw [c_1, k_nlt c_2]; rfl⟩ (Nat.le_of_ble_eq_true rfl) (Nat.le_of_ble_eq_true rfl) dX3_checkRange_20
    · exact k_throw (text := "out of its range") (is := 192) (ic := 194) (cls := "java/lang/IllegalArgumentException") hC hG rfl (by decide +kernel) (List.mem_of_getElem? (i := 1) rfl) (List.mem_of_getElem? (i := 2) rfl) (by decide) (fun w h => List.mem_cons_of_mem _ (List.mem_append_right _ h)) (by decide +kernel) (by decide +kernel) hl.1 dX3_checkRange_10 dX3_checkRange_13 dX3_checkRange_14 dX3_checkRange_16 dX3_checkRange_19 ⟨(Nat.le_of_ble_eq_true rfl), (Nat.le_of_ble_eq_true rfl)⟩ ⟨(Nat.le_of_ble_eq_true rfl), (Nat.le_of_ble_eq_true rfl)⟩ ⟨(Nat.le_of_ble_eq_true rfl), (Nat.le_of_ble_eq_true rfl)⟩ (⟨rfl, rfl, by unfold kIn; rw [c_1, k_nle c_2]; rfl⟩)

set_option maxHeartbeats 4000000 in
set_option maxRecDepth 100000 in
/-- in: whether it is within its range -/
theorem K_X4_in (l : Launch) (hfl : l.stackTraces = false) (D : va_G) (cI cJ cZ cO : ClassId) (z mi : Nat) (ws : va_W) (x a b : Int32) : kM l D (kTy cI cJ cZ cO) z mi yX4_in wsX4_in ({ frames := 0, cells := 0, slots := 0, locals := 0 } : Room) [.int x, .int a, .int b] (ws) (fun v u => v = some (.int (kb (kIn x a b))) ∧ u = ws) (fun _ _ => False) := by
  refine kM.of hfl (cc := cX4_in) (maxL := 3) (ret := (some .boolean)) (by decide) rfl (Nat.le_of_ble_eq_true rfl) ?_
  intro p e s m args below meth c A ls hC hr hmn hG hl
  have hx := hC.x
  have hb := hC.b
  have hl : lv_has ls 3 [(0, .int x), (1, .int a), (2, .int b)] := hl
  refine lv_iload_n hx hb dX4_in_0 rfl (lv_at hl 0 rfl) ?_
  refine lv_iload_n hx hb dX4_in_1 rfl (lv_at hl 1 rfl) ?_
  refine k_join (F := fun v3 : Int32 => F0 m 15 ls (.int v3 :: [])) (P := fun v3 => v3 = kb (!(decide (x < a)) && (!(decide (b < x))))) ?_ (fun J2 => ?_)
  · intro v3 ev3
    have ev3 : v3 = kb (!(decide (x < a)) && (!(decide (b < x)))) := ev3
    subst ev3
    exact k_retz hC hr hG (kb_nar _) ⟨rfl, rfl⟩ (Nat.le_of_ble_eq_true rfl) (Nat.le_of_ble_eq_true rfl) dX4_in_15
  refine k_icmp_lt (tgt := 14) hx hb dX4_in_2 (by decide) (fun c_1 => ?_) (fun c_1 => ?_)
  · refine lv_iconst (v := 0) hx hb dX4_in_14 (by decide) ?_
    exact J2 _ (by rw [c_1]; rfl)
  · refine lv_iload_n hx hb dX4_in_5 rfl (lv_at hl 0 rfl) ?_
    refine lv_iload_n hx hb dX4_in_6 rfl (lv_at hl 2 rfl) ?_
    refine k_icmp_gt (tgt := 14) hx hb dX4_in_7 (by decide) (fun c_4 => ?_) (fun c_4 => ?_)
    · refine lv_iconst (v := 0) hx hb dX4_in_14 (by decide) ?_
      exact J2 _ (by rw [c_1, c_4]; rfl)
    · refine lv_iconst (v := 1) hx hb dX4_in_10 (by decide) ?_
      refine lv_goto (tgt := 15) hx hb dX4_in_11 (by decide) ?_
      exact J2 _ (by rw [c_1, c_4]; rfl)
end
