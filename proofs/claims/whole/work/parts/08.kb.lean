/-! ===== truth values as numbers, and rows over them ===== -/
def kb (b : Bool) : Int32 := if b then 1 else 0
theorem kb_f {b : Bool} (h : kb b = 0) : b = false := by
  cases b with
  | false => rfl
  | true => exact absurd h (by decide)
theorem kb_t {b : Bool} (h : ¬ kb b = 0) : b = true := by
  cases b with
  | false => exact absurd rfl h
  | true => rfl
theorem kb_nar (b : Bool) : narrow .boolean (.int (kb b)) = .int (kb b) := by cases b <;> rfl
theorem kb_and (b : Bool) : kb b &&& 1 = kb b := by cases b <;> rfl
theorem k_catq (v : Option Nat) : (va_rf v).category = 1 := by cases v <;> rfl
theorem k_narq (v : Option Nat) {ty : FieldType} (h : (match ty with | .object _ => true | .array _ => true | _ => false) = true) : narrow ty (va_rf v) = va_rf v := by
  cases v <;> cases ty <;> first | rfl | exact absurd h (by decide)
theorem k_fitq (v : Option Nat) {ty : FieldType} (h : (match ty with | .object _ => true | .array _ => true | _ => false) = true) : fits ty (va_rf v) = true := by
  cases v <;> cases ty <;> first | rfl | exact absurd h (by decide)
section KB3
variable {p : Program} {l : Launch} {e : Env} {R : Room} {s : State} {m : MethodId} {args : Array Value} {below : List Frame} {meth : Method} {c : Code} {H : Heap} {locs : List Loc} {cells slots : Nat} {Q : State → Prop}
variable {cc : ByteArray} {pc : Nat} {ls : Array Slot} {rest : List Value}
theorem k_topi {x y : Int32} (h : x = y) (k : W p l e R s m args below meth c H locs cells slots Q (F0 m pc ls (.int y :: rest))) : W p l e R s m args below meth c H locs cells slots Q (F0 m pc ls (.int x :: rest)) := h ▸ k
theorem k_topl {x y : Int64} (h : x = y) (k : W p l e R s m args below meth c H locs cells slots Q (F0 m pc ls (.long y :: rest))) : W p l e R s m args below meth c H locs cells slots Q (F0 m pc ls (.long x :: rest)) := h ▸ k
theorem k_topq {x y : Option Nat} (h : x = y) (k : W p l e R s m args below meth c H locs cells slots Q (F0 m pc ls (va_rf y :: rest))) : W p l e R s m args below meth c H locs cells slots Q (F0 m pc ls (va_rf x :: rest)) := h ▸ k
theorem k_ifB_eq (hexec : p.tables.exec = Jvm.exec) (hb : c.code = cc) {b : Bool} {off : Int} {tgt : Nat} (hdg : decode cc pc = .ok (.ifCond .eq off, 3)) (ht : (pc : Int) + off = (tgt : Int))
    (kt : b = false → W p l e R s m args below meth c H locs cells slots Q (F0 m tgt ls rest)) (kf : b = true → W p l e R s m args below meth c H locs cells slots Q (F0 m (pc + 3) ls rest)) : W p l e R s m args below meth c H locs cells slots Q (F0 m pc ls (.int (kb b) :: rest)) :=
  lv_if_eq hexec hb hdg ht (fun h => kt (kb_f h)) (fun h => kf (kb_t h))
theorem k_ifB_ne (hexec : p.tables.exec = Jvm.exec) (hb : c.code = cc) {b : Bool} {off : Int} {tgt : Nat} (hdg : decode cc pc = .ok (.ifCond .ne off, 3)) (ht : (pc : Int) + off = (tgt : Int))
    (kt : b = true → W p l e R s m args below meth c H locs cells slots Q (F0 m tgt ls rest)) (kf : b = false → W p l e R s m args below meth c H locs cells slots Q (F0 m (pc + 3) ls rest)) : W p l e R s m args below meth c H locs cells slots Q (F0 m pc ls (.int (kb b) :: rest)) :=
  lv_if_ne hexec hb hdg ht (fun h => kt (kb_t h)) (fun h => kf (kb_f h))
theorem k_if_eq (hexec : p.tables.exec = Jvm.exec) (hb : c.code = cc) {x : Int32} {off : Int} {tgt : Nat} (hdg : decode cc pc = .ok (.ifCond .eq off, 3)) (ht : (pc : Int) + off = (tgt : Int))
    (kt : decide (x = 0) = true → W p l e R s m args below meth c H locs cells slots Q (F0 m tgt ls rest)) (kf : decide (x = 0) = false → W p l e R s m args below meth c H locs cells slots Q (F0 m (pc + 3) ls rest)) : W p l e R s m args below meth c H locs cells slots Q (F0 m pc ls (.int x :: rest)) :=
  lv_if_eq hexec hb hdg ht (fun h => kt (decide_eq_true h)) (fun h => kf (decide_eq_false h))
theorem k_if_ne (hexec : p.tables.exec = Jvm.exec) (hb : c.code = cc) {x : Int32} {off : Int} {tgt : Nat} (hdg : decode cc pc = .ok (.ifCond .ne off, 3)) (ht : (pc : Int) + off = (tgt : Int))
    (kt : decide (x = 0) = false → W p l e R s m args below meth c H locs cells slots Q (F0 m tgt ls rest)) (kf : decide (x = 0) = true → W p l e R s m args below meth c H locs cells slots Q (F0 m (pc + 3) ls rest)) : W p l e R s m args below meth c H locs cells slots Q (F0 m pc ls (.int x :: rest)) :=
  lv_if_ne hexec hb hdg ht (fun h => kt (decide_eq_false h)) (fun h => kf (decide_eq_true (Decidable.not_not.mp (fun q => q h))))
theorem k_if_lt (hexec : p.tables.exec = Jvm.exec) (hb : c.code = cc) {x : Int32} {off : Int} {tgt : Nat} (hdg : decode cc pc = .ok (.ifCond .lt off, 3)) (ht : (pc : Int) + off = (tgt : Int))
    (kt : decide (x < 0) = true → W p l e R s m args below meth c H locs cells slots Q (F0 m tgt ls rest)) (kf : decide (x < 0) = false → W p l e R s m args below meth c H locs cells slots Q (F0 m (pc + 3) ls rest)) : W p l e R s m args below meth c H locs cells slots Q (F0 m pc ls (.int x :: rest)) :=
  lv_if_lt hexec hb hdg ht (fun h => kt (decide_eq_true h)) (fun h => kf (decide_eq_false h))
theorem k_if_ge (hexec : p.tables.exec = Jvm.exec) (hb : c.code = cc) {x : Int32} {off : Int} {tgt : Nat} (hdg : decode cc pc = .ok (.ifCond .ge off, 3)) (ht : (pc : Int) + off = (tgt : Int))
    (kt : decide (0 ≤ x) = true → W p l e R s m args below meth c H locs cells slots Q (F0 m tgt ls rest)) (kf : decide (0 ≤ x) = false → W p l e R s m args below meth c H locs cells slots Q (F0 m (pc + 3) ls rest)) : W p l e R s m args below meth c H locs cells slots Q (F0 m pc ls (.int x :: rest)) :=
  lv_if_ge hexec hb hdg ht (fun h => kt (decide_eq_true h)) (fun h => kf (decide_eq_false h))
theorem k_if_gt (hexec : p.tables.exec = Jvm.exec) (hb : c.code = cc) {x : Int32} {off : Int} {tgt : Nat} (hdg : decode cc pc = .ok (.ifCond .gt off, 3)) (ht : (pc : Int) + off = (tgt : Int))
    (kt : decide (0 < x) = true → W p l e R s m args below meth c H locs cells slots Q (F0 m tgt ls rest)) (kf : decide (0 < x) = false → W p l e R s m args below meth c H locs cells slots Q (F0 m (pc + 3) ls rest)) : W p l e R s m args below meth c H locs cells slots Q (F0 m pc ls (.int x :: rest)) :=
  lv_if_gt hexec hb hdg ht (fun h => kt (decide_eq_true h)) (fun h => kf (decide_eq_false h))
theorem k_if_le (hexec : p.tables.exec = Jvm.exec) (hb : c.code = cc) {x : Int32} {off : Int} {tgt : Nat} (hdg : decode cc pc = .ok (.ifCond .le off, 3)) (ht : (pc : Int) + off = (tgt : Int))
    (kt : decide (x ≤ 0) = true → W p l e R s m args below meth c H locs cells slots Q (F0 m tgt ls rest)) (kf : decide (x ≤ 0) = false → W p l e R s m args below meth c H locs cells slots Q (F0 m (pc + 3) ls rest)) : W p l e R s m args below meth c H locs cells slots Q (F0 m pc ls (.int x :: rest)) :=
  lv_if_le hexec hb hdg ht (fun h => kt (decide_eq_true h)) (fun h => kf (decide_eq_false h))
theorem k_icmp_eq (hexec : p.tables.exec = Jvm.exec) (hb : c.code = cc) {x y : Int32} {off : Int} {tgt : Nat} (hdg : decode cc pc = .ok (.if_icmp .eq off, 3)) (ht : (pc : Int) + off = (tgt : Int))
    (kt : decide (x = y) = true → W p l e R s m args below meth c H locs cells slots Q (F0 m tgt ls rest)) (kf : decide (x = y) = false → W p l e R s m args below meth c H locs cells slots Q (F0 m (pc + 3) ls rest)) : W p l e R s m args below meth c H locs cells slots Q (F0 m pc ls (.int y :: .int x :: rest)) :=
  lv_icmp_eq hexec hb hdg ht (fun h => kt (decide_eq_true h)) (fun h => kf (decide_eq_false h))
theorem k_icmp_ne (hexec : p.tables.exec = Jvm.exec) (hb : c.code = cc) {x y : Int32} {off : Int} {tgt : Nat} (hdg : decode cc pc = .ok (.if_icmp .ne off, 3)) (ht : (pc : Int) + off = (tgt : Int))
    (kt : decide (x = y) = false → W p l e R s m args below meth c H locs cells slots Q (F0 m tgt ls rest)) (kf : decide (x = y) = true → W p l e R s m args below meth c H locs cells slots Q (F0 m (pc + 3) ls rest)) : W p l e R s m args below meth c H locs cells slots Q (F0 m pc ls (.int y :: .int x :: rest)) :=
  lv_icmp_ne hexec hb hdg ht (fun h => kt (decide_eq_false h)) (fun h => kf (decide_eq_true h))
theorem k_icmp_lt (hexec : p.tables.exec = Jvm.exec) (hb : c.code = cc) {x y : Int32} {off : Int} {tgt : Nat} (hdg : decode cc pc = .ok (.if_icmp .lt off, 3)) (ht : (pc : Int) + off = (tgt : Int))
    (kt : decide (x < y) = true → W p l e R s m args below meth c H locs cells slots Q (F0 m tgt ls rest)) (kf : decide (x < y) = false → W p l e R s m args below meth c H locs cells slots Q (F0 m (pc + 3) ls rest)) : W p l e R s m args below meth c H locs cells slots Q (F0 m pc ls (.int y :: .int x :: rest)) :=
  lv_icmp_lt hexec hb hdg ht (fun h => kt (decide_eq_true h)) (fun h => kf (decide_eq_false h))
theorem k_icmp_ge (hexec : p.tables.exec = Jvm.exec) (hb : c.code = cc) {x y : Int32} {off : Int} {tgt : Nat} (hdg : decode cc pc = .ok (.if_icmp .ge off, 3)) (ht : (pc : Int) + off = (tgt : Int))
    (kt : decide (y ≤ x) = true → W p l e R s m args below meth c H locs cells slots Q (F0 m tgt ls rest)) (kf : decide (y ≤ x) = false → W p l e R s m args below meth c H locs cells slots Q (F0 m (pc + 3) ls rest)) : W p l e R s m args below meth c H locs cells slots Q (F0 m pc ls (.int y :: .int x :: rest)) :=
  lv_icmp_ge hexec hb hdg ht (fun h => kt (decide_eq_true h)) (fun h => kf (decide_eq_false h))
theorem k_icmp_gt (hexec : p.tables.exec = Jvm.exec) (hb : c.code = cc) {x y : Int32} {off : Int} {tgt : Nat} (hdg : decode cc pc = .ok (.if_icmp .gt off, 3)) (ht : (pc : Int) + off = (tgt : Int))
    (kt : decide (y < x) = true → W p l e R s m args below meth c H locs cells slots Q (F0 m tgt ls rest)) (kf : decide (y < x) = false → W p l e R s m args below meth c H locs cells slots Q (F0 m (pc + 3) ls rest)) : W p l e R s m args below meth c H locs cells slots Q (F0 m pc ls (.int y :: .int x :: rest)) :=
  lv_icmp_gt hexec hb hdg ht (fun h => kt (decide_eq_true h)) (fun h => kf (decide_eq_false h))
theorem k_icmp_le (hexec : p.tables.exec = Jvm.exec) (hb : c.code = cc) {x y : Int32} {off : Int} {tgt : Nat} (hdg : decode cc pc = .ok (.if_icmp .le off, 3)) (ht : (pc : Int) + off = (tgt : Int))
    (kt : decide (x ≤ y) = true → W p l e R s m args below meth c H locs cells slots Q (F0 m tgt ls rest)) (kf : decide (x ≤ y) = false → W p l e R s m args below meth c H locs cells slots Q (F0 m (pc + 3) ls rest)) : W p l e R s m args below meth c H locs cells slots Q (F0 m pc ls (.int y :: .int x :: rest)) :=
  lv_icmp_le hexec hb hdg ht (fun h => kt (decide_eq_true h)) (fun h => kf (decide_eq_false h))
/-- references that may be null: loads, stores, tests -/
theorem k_acmp_eq (hexec : p.tables.exec = Jvm.exec) (hb : c.code = cc) {rx ry : Option Nat} {off : Int} {tgt : Nat} (hdg : decode cc pc = .ok (.if_acmp .eq off, 3)) (ht : (pc : Int) + off = (tgt : Int))
    (kt : decide (rx = ry) = true → W p l e R s m args below meth c H locs cells slots Q (F0 m tgt ls rest)) (kf : decide (rx = ry) = false → W p l e R s m args below meth c H locs cells slots Q (F0 m (pc + 3) ls rest)) : W p l e R s m args below meth c H locs cells slots Q (F0 m pc ls (va_rf ry :: va_rf rx :: rest)) :=
  lv_acmp_eq hexec hb hdg ht (fun h => kt (decide_eq_true h)) (fun h => kf (decide_eq_false h))
theorem k_acmp_ne (hexec : p.tables.exec = Jvm.exec) (hb : c.code = cc) {rx ry : Option Nat} {off : Int} {tgt : Nat} (hdg : decode cc pc = .ok (.if_acmp .ne off, 3)) (ht : (pc : Int) + off = (tgt : Int))
    (kt : decide (rx = ry) = false → W p l e R s m args below meth c H locs cells slots Q (F0 m tgt ls rest)) (kf : decide (rx = ry) = true → W p l e R s m args below meth c H locs cells slots Q (F0 m (pc + 3) ls rest)) : W p l e R s m args below meth c H locs cells slots Q (F0 m pc ls (va_rf ry :: va_rf rx :: rest)) :=
  lv_acmp_ne hexec hb hdg ht (fun h => kt (decide_eq_false h)) (fun h => kf (decide_eq_true h))
theorem k_ifnull (hexec : p.tables.exec = Jvm.exec) (hb : c.code = cc) {x : Option Nat} {off : Int} {tgt : Nat} (hdg : decode cc pc = .ok (.ifnull off, 3)) (ht : (pc : Int) + off = (tgt : Int))
    (kt : x.isSome = false → W p l e R s m args below meth c H locs cells slots Q (F0 m tgt ls rest)) (kf : x.isSome = true → W p l e R s m args below meth c H locs cells slots Q (F0 m (pc + 3) ls rest)) : W p l e R s m args below meth c H locs cells slots Q (F0 m pc ls (va_rf x :: rest)) := by
  cases x with
  | none => exact lv_ifnullN hexec hb hdg ht (kt rfl)
  | some a => exact lv_ifnull hexec hb hdg (kf rfl)
theorem k_ifnonnull (hexec : p.tables.exec = Jvm.exec) (hb : c.code = cc) {x : Option Nat} {off : Int} {tgt : Nat} (hdg : decode cc pc = .ok (.ifnonnull off, 3)) (ht : (pc : Int) + off = (tgt : Int))
    (kt : x.isSome = true → W p l e R s m args below meth c H locs cells slots Q (F0 m tgt ls rest)) (kf : x.isSome = false → W p l e R s m args below meth c H locs cells slots Q (F0 m (pc + 3) ls rest)) : W p l e R s m args below meth c H locs cells slots Q (F0 m pc ls (va_rf x :: rest)) := by
  cases x with
  | none => exact lv_ifnonnullN hexec hb hdg (kf rfl)
  | some a => exact lv_ifnonnull hexec hb hdg ht (kt rfl)
end KB3
section KB4
variable {p : Program} {l : Launch} {e : Env} {R : Room} {s : State} {m : MethodId} {args : Array Value} {below : List Frame} {meth : Method} {c : Code} {H : Heap} {locs : List Loc} {cells slots : Nat} {Q : State → Prop}
variable {cc : ByteArray} {own : String} {wsm : List Cond} {nL : Nat} {D : va_G} {ty : List (ClassId × FieldType)} {z mi : Nat} {A : Nat → Prop} {ws : va_W} {pc : Nat} {ls : Array Slot} {rest : List Value} {mc ms : Nat}
/-- a truth value or a number made on several ways -/
theorem k_join {α : Type} (F : α → JFrame) (P : α → Prop) {g : JFrame} (J : ∀ v : α, P v → W p l e R s m args below meth c H locs cells slots Q (F v)) (K : (∀ v : α, P v → W p l e R s m args below meth c H locs cells slots Q (F v)) → W p l e R s m args below meth c H locs cells slots Q g) : W p l e R s m args below meth c H locs cells slots Q g := K J
theorem k_joinH {α : Type} (F : α → JFrame) (P : α → Prop) (ws0 : va_W) {g : JFrame} (J : ∀ v : α, P v → ∀ (H : Heap) (locs : List Loc), kG D A s ws0 H locs → W p l e R s m args below meth c H locs cells slots Q (F v)) (K : (∀ v : α, P v → ∀ (H : Heap) (locs : List Loc), kG D A s ws0 H locs → W p l e R s m args below meth c H locs cells slots Q (F v)) → W p l e R s m args below meth c H locs cells slots Q g) : W p l e R s m args below meth c H locs cells slots Q g := K J
/-- not caught here -/
theorem k_out {E : String} {ce : Cell} {q : Addr} {Qc : Array Value → State → Outcome → State → Prop} {px : String → va_W → Prop} (hC : kC p l s m args meth c cc own wsm nL D ty z mi A) (hG : kG D A s ws H locs) (h1 : H[q]? = some ce) (h2 : ce.vm = .none) (h3 : s.vm.findClass E = some ce.cls) (hx : px E ws) (hc : cells ≤ mc) (hs : slots ≤ ms) :
    vx_W p l e R s m args below meth c H locs cells slots (vx_MQ below Qc (kXx D px A) args s mc ms A) (F0 m pc ls rest) q :=
  vx_out (fun x h => (hC.et x h).elim) hC.k h1 h2 h3 (fun t ht _ => ⟨ws, hx, by rw [ht]; exact hG.1, hG.2.1, hG.2.2.F ht⟩) hG.2.2.2.2 hc hs
end KB4
/-- within its range -/
def kIn (x a b : Int32) : Bool := !decide (x < a) && !decide (b < x)
theorem kb_fit (b : Bool) : fits .boolean (.int (kb b)) = true := by cases b <;> rfl
theorem k_updb (mk : Nat → Bool) (j : Nat) (b : Bool) : upd (fun k => kb (mk k)) j (vp_nar .boolean (kb b)) = fun k => kb (va_up mk j b k) := by
  funext k
  unfold upd va_up
  by_cases h : k = j
  · rw [if_pos h, if_pos h]; cases b <;> rfl
  · rw [if_neg h, if_neg h]
theorem k_i32le {a b : Int32} : a ≤ b ↔ a.toInt ≤ b.toInt := Int32.le_iff_toInt_le
theorem k_i32lt {a b : Int32} : a < b ↔ a.toInt < b.toInt := Int32.lt_iff_toInt_lt
theorem k_nI1 {n : Nat} (h : n < 2 ^ 31) : (nI n - 1).toInt = (n : Int) - 1 := by
  cases n with
  | zero => rfl
  | succ n => rw [nI_pred, nI_toInt (by omega)]; omega
theorem kIn_iff {x a b : Int32} : kIn x a b = true ↔ a.toInt ≤ x.toInt ∧ x.toInt ≤ b.toInt := by
  unfold kIn
  rw [Bool.and_eq_true, Bool.not_eq_true', Bool.not_eq_true', decide_eq_false_iff_not, decide_eq_false_iff_not, Int32.not_lt, Int32.not_lt, k_i32le, k_i32le]
theorem kIn_ex {x : Int32} {n : Nat} (hn : n < 2 ^ 31) (h : kIn x 0 (nI n - 1) = true) : ∃ j, j < n ∧ x = nI j := by
  obtain ⟨h1, h2⟩ := kIn_iff.mp h
  rw [k_nI1 hn] at h2
  have h3 : (0 : Int32).toInt = 0 := rfl
  refine vp_in_of (n := n) (vp_in_iff.mpr ⟨by omega, by omega⟩) hn
theorem kIn_in {x : Int32} {n N : Nat} (h : kIn x 0 (nI n - 1) = true) (hn : n ≤ N) (hN : N < 2 ^ 31) : vp_in x N := by
  obtain ⟨j, hj, rfl⟩ := kIn_ex (by omega) h
  exact vp_in_nI (by omega) hN
theorem kPar_in {x : Int32} {n N : Nat} (h : (decide (x = (-1)) || kIn x 0 (nI n - 1)) = true) (hn : n ≤ N) (hN : N < 2 ^ 31) : x = -1 ∨ vp_in x N := by
  rw [Bool.or_eq_true] at h
  rcases h with h | h
  · exact Or.inl (of_decide_eq_true h)
  · exact Or.inr (kIn_in h hn hN)
theorem kLt {n : Nat} {c : Int32} (C : Nat) (hc : c = nI C) (hC : C < 2 ^ 31) (hn : n < 2 ^ 31) (h : decide (c ≤ nI n) = false) : n < C := by
  subst hc
  have := of_decide_eq_false h
  rw [nI_leI hC hn] at this
  omega
/-- the price of a rate, the quantity, the sum of a leaf -/
def kCt (fA fP : Nat → Int32) (q : Nat) : Int32 := fA (3 * q) * fP 0 + fA (3 * q + 1) * fP 1 + fA (3 * q + 2) * fP 2
def kQt (me wa : Int32) : Int32 := ((me.toInt64 * (100 + wa).toInt64 + 99) / 100).toInt32
def kLf (fR : Nat → Int32) (x : Int32) : Bool := !decide (x = (-1)) && !decide (fR x.toNatClampNeg = (-1))
theorem k_andl {a b : Bool} (h : (a && b) = true) : a = true := ((Bool.and_eq_true _ _).mp h).1
theorem k_andr {a b : Bool} (h : (a && b) = true) : b = true := ((Bool.and_eq_true _ _).mp h).2
theorem k_notf {a : Bool} (h : (!a) = true) : a = false := by cases a <;> first | rfl | exact absurd h (by decide)
section KB5
variable {p : Program} {l : Launch} {e : Env} {R : Room} {s : State} {m : MethodId} {args : Array Value} {below : List Frame} {meth : Method} {c : Code} {H : Heap} {locs : List Loc} {cells slots : Nat} {Q : State → Prop}
variable {D : va_G} {A : Nat → Prop} {ls : Array Slot} {nL : Nat}
/-- a loop: from its head, with a measure that falls -/
theorem k_loop {σ : Type} (I : σ → Prop) (μ : σ → Nat) (Wd : σ → va_W) (LV : σ → List (Nat × Value)) (pcH : Nat) (stk : List Value)
    (body : ∀ q : σ, I q → (∀ q' : σ, I q' → μ q' < μ q → ∀ (H : Heap) (locs : List Loc) (ls : Array Slot), kG D A s (Wd q') H locs → lv_has ls nL (LV q') → W p l e R s m args below meth c H locs cells slots Q (F0 m pcH ls stk)) →
      ∀ (H : Heap) (locs : List Loc) (ls : Array Slot), kG D A s (Wd q) H locs → lv_has ls nL (LV q) → W p l e R s m args below meth c H locs cells slots Q (F0 m pcH ls stk))
    (q0 : σ) (h0 : I q0) (hG : kG D A s (Wd q0) H locs) (hl : lv_has ls nL (LV q0)) : W p l e R s m args below meth c H locs cells slots Q (F0 m pcH ls stk) := by
  have key : ∀ (n : Nat) (q : σ), I q → μ q < n → ∀ (H : Heap) (locs : List Loc) (ls : Array Slot), kG D A s (Wd q) H locs → lv_has ls nL (LV q) → W p l e R s m args below meth c H locs cells slots Q (F0 m pcH ls stk) := by
    intro n
    induction n with
    | zero => intro q _ h; exact absurd h (Nat.not_lt_zero _)
    | succ n ih =>
      intro q hI hq
      exact body q hI (fun q' hI' hlt => ih q' hI' (by omega))
  exact key (μ q0 + 1) q0 h0 (Nat.lt_succ_self _) H locs ls hG hl
end KB5
theorem kIn3 {x : Int32} (h : kIn x 0 2 = true) : vp_in x 3 := by
  have e : nI 3 - 1 = 2 := by decide
  exact kIn_in (n := 3) (by rw [e]; exact h) (Nat.le_refl _) (by decide)
/-- the area less the openings that are taken off, k of them -/
def kNs (fH : Nat → Int32) (lim a0 : Int32) : Nat → Int32
  | 0 => a0
  | k + 1 => kNs fH lim a0 k - (bif decide (fH k ≤ lim) then 0 else fH k)
def kWh (tw : Int32) : Int32 := (bif decide ((0 : Int32) ≤ tw) then tw else -tw) / 2
def kNet (fH : Nat → Int32) (lim tw : Int32) (no : Nat) : Int32 := bif decide ((0 : Int32) ≤ kNs fH lim (kWh tw) no) then kNs fH lim (kWh tw) no else 0
theorem k_bifor {a i r : Bool} (h : (bif a then r else i && r) = true) : (a || i) = true := by cases a <;> cases i <;> cases r <;> first | rfl | exact h
theorem kIn_ex40 {x : Int32} (h : kIn x 0 40 = true) : ∃ j, j < 41 ∧ x = nI j := by
  have e : nI 41 - 1 = 40 := by decide
  exact kIn_ex (n := 41) (by decide) (by rw [e]; exact h)
theorem kIx {x y : Int32} (h1 : kIn x 0 40 = true) (h2 : kIn y 0 40 = true) : 41 * x + y = nI (41 * x.toNatClampNeg + y.toNatClampNeg) := by
  obtain ⟨a, ha, rfl⟩ := kIn_ex40 h1
  obtain ⟨b, hb, rfl⟩ := kIn_ex40 h2
  rw [nI_clamp (by omega), nI_clamp (by omega)]
  rw [show (41 : Int32) * nI a = nI (41 * a) from pk_mul 41 a, nI_add]
theorem kIxb {x y : Int32} (h1 : kIn x 0 40 = true) (h2 : kIn y 0 40 = true) : 41 * x.toNatClampNeg + y.toNatClampNeg < 1681 := by
  obtain ⟨a, ha, rfl⟩ := kIn_ex40 h1
  obtain ⟨b, hb, rfl⟩ := kIn_ex40 h2
  rw [nI_clamp (by omega), nI_clamp (by omega)]
  omega
def kClr (mk : Nat → Bool) (k : Nat) : Nat → Bool := fun j => !decide (j < k) && mk j
theorem kClr0 (mk : Nat → Bool) : kClr mk 0 = mk := by
  funext j
  simp [kClr]
theorem kClrS (mk : Nat → Bool) (k : Nat) : va_up (kClr mk k) k false = kClr mk (k + 1) := by
  funext j
  unfold va_up kClr
  by_cases h : j = k
  · rw [if_pos h, decide_eq_true (show j < k + 1 by omega)]; rfl
  · rw [if_neg h]
    by_cases h2 : j < k
    · rw [decide_eq_true h2, decide_eq_true (show j < k + 1 by omega)]
    · rw [decide_eq_false h2, decide_eq_false (show ¬ j < k + 1 by omega)]
/-- the marks of a drawing that has only begun -/
def kBeg (mk : Nat → Bool) (x y : Int32) : Nat → Bool := va_up (kClr mk 1681) (41 * x.toNatClampNeg + y.toNatClampNeg) true
/-- a leaf's own sum, and the sums of all items, worked out from the last to the first -/
def kIts (me wa va : Int32) : Int64 := (kQt me wa).toInt64 + va.toInt64
def kOwn (me wa va ct : Int32) : Int64 := bif decide ((0 : Int32) ≤ lg_cmp (kIts me wa va) 0) then kIts me wa va * ct.toInt64 else 0
def kZr (fS : Nat → Int64) (k : Nat) : Nat → Int64 := fun j => if j < k then 0 else fS j
theorem kZr0 (fS : Nat → Int64) : kZr fS 0 = fS := by
  funext j
  simp [kZr]
theorem kZrS (fS : Nat → Int64) (k : Nat) : vp_updL (kZr fS k) k 0 = kZr fS (k + 1) := by
  funext j
  unfold vp_updL kZr
  by_cases h : j = k
  · rw [if_pos h, if_pos (by omega)]
  · rw [if_neg h]
    by_cases h2 : j < k
    · rw [if_pos h2, if_pos (by omega)]
    · rw [if_neg h2, if_neg (by omega)]
def kFs (fPa fR fW fMe fV fA fP : Nat → Int32) (k : Nat) (S : Nat → Int64) : Nat → Int64 := bif decide (fR k = (-1)) then S else vp_updL S k (kOwn (fMe k) (fW k) (fV k) (kCt fA fP (fR k).toNatClampNeg))
def kFp (fPa : Nat → Int32) (k : Nat) (S : Nat → Int64) : Nat → Int64 := bif decide (fPa k = (-1)) then S else vp_updL S (fPa k).toNatClampNeg (S (fPa k).toNatClampNeg + S k)
def kFd (fPa fR fW fMe fV fA fP : Nat → Int32) : Nat → (Nat → Int64) → Nat → Int64
  | 0, S => S
  | k + 1, S => kFd fPa fR fW fMe fV fA fP k (kFp fPa k (kFs fPa fR fW fMe fV fA fP k S))
def kFl (fPa fR fW fMe fV fA fP : Nat → Int32) (ni : Nat) (S : Nat → Int64) : Nat → Int64 := kFd fPa fR fW fMe fV fA fP ni (kZr S ni)
/-- what holds of the rows of items -/
def kIt (fPa fR : Nat → Int32) (ni : Nat) : Prop := ∀ k, k < ni → (fR k = -1 ∨ vp_in (fR k) 12) ∧ (fPa k = -1 ∨ ∃ q, q < k ∧ fPa k = nI q)
theorem kIt_par {fPa fR : Nat → Int32} {ni k : Nat} (h : kIt fPa fR ni) (hn : ni ≤ 30) (hk : k < ni) (hc : decide (fPa k = (-1)) = false) : vp_in (fPa k) 30 := by
  rcases (h k hk).2 with h1 | ⟨q, h1, h2⟩
  · exact absurd h1 (of_decide_eq_false hc)
  · rw [h2]; exact vp_in_nI (by omega) (by decide)
theorem kIt_rate {fPa fR : Nat → Int32} {ni k : Nat} (h : kIt fPa fR ni) (hk : k < ni) (hc : decide (fR k = (-1)) = false) : vp_in (fR k) 12 := (h k hk).1.resolve_left (of_decide_eq_false hc)
theorem k_neg1 {j : Nat} (hj : j < 2 ^ 31) : decide (nI j - 1 < 0) = decide (j = 0) := by
  rw [decide_eq_decide, k_i32lt, k_nI1 hj]
  have : (0 : Int32).toInt = 0 := rfl
  omega
/-- the total of the leaves, the worth -/
def kTo (fR : Nat → Int32) (S : Nat → Int64) : Nat → Int64
  | 0 => 0
  | k + 1 => kTo fR S k + (bif decide (fR k = (-1)) then 0 else S k)
def kWo (fR fDo : Nat → Int32) (S : Nat → Int64) : Nat → Int64
  | 0 => 0
  | k + 1 => kWo fR fDo S k + (bif decide (fR k = (-1)) then 0 else S k * (fDo k).toInt64 / 100)
def kDu (w : Int64) (ret : Int32) : Int64 := w - (w * ret.toInt64 + 99) / 100
/-- up the parents, while above o -/
def kUp (fPa : Nat → Int32) (o : Int32) : Nat → Int32 → Int32
  | 0, k => k
  | n + 1, k => bif decide (k ≤ o) then k else kUp fPa o n (fPa k.toNatClampNeg)
def kBl (fPa : Nat → Int32) (k o : Int32) : Bool := decide (kUp fPa o 31 k = o)
/-- the dearest leaf, from item i on -/
def kDs (fPa fR : Nat → Int32) (S : Nat → Int64) (o : Int32) (k : Nat) (best : Int32) : Int32 :=
  bif !decide (fR k = (-1)) && kBl fPa (nI k) o then (bif decide (best = (-1)) then nI k else bif decide (lg_cmp (S k) (S best.toNatClampNeg) ≤ 0) then best else nI k) else best
def kDr (fPa fR : Nat → Int32) (S : Nat → Int64) (o : Int32) (i : Nat) : Nat → Int32
  | 0 => -1
  | n + 1 => kDs fPa fR S o (i + n) (kDr fPa fR S o i n)
/-- the rate with these amounts, the last of them, among n -/
def kKn (fA : Nat → Int32) (la pl ma : Int32) : Nat → Int32
  | 0 => -1
  | k + 1 => bif decide (fA (3 * k) = la) then (bif decide (fA (3 * k + 1) = pl) then (bif decide (fA (3 * k + 2) = ma) then nI k else kKn fA la pl ma k) else kKn fA la pl ma k) else kKn fA la pl ma k
theorem kGe {n : Nat} {c : Int32} (C : Nat) (hc : c = nI C) (hC : C < 2 ^ 31) (hn : n < 2 ^ 31) (h : decide (c ≤ nI n) = true) : C ≤ n := by
  subst hc
  have := of_decide_eq_true h
  rw [nI_leI hC hn] at this
  exact this
theorem k_updb0 (mk : Nat → Bool) (j : Nat) : upd (fun k => kb (mk k)) j (vp_nar .boolean 0) = fun k => kb (va_up mk j false k) := k_updb mk j false
theorem k_updb1 (mk : Nat → Bool) (j : Nat) : upd (fun k => kb (mk k)) j (vp_nar .boolean 1) = fun k => kb (va_up mk j true k) := k_updb mk j true
theorem k_m1 (x : Int32) : x + (-1) = x - 1 := by rw [Int32.sub_eq_add_neg]
theorem k_succ {j : Nat} (hj : j < 2 ^ 31) (h : decide (nI j - 1 < 0) = false) : ∃ k, j = k + 1 := by
  rw [k_neg1 hj] at h
  have := of_decide_eq_false h
  exact ⟨j - 1, by omega⟩
theorem k_zero {j : Nat} (hj : j < 2 ^ 31) (h : decide (nI j - 1 < 0) = true) : j = 0 := by
  rw [k_neg1 hj] at h
  exact of_decide_eq_true h
theorem kUp_stop {fPa : Nat → Int32} {o k : Int32} {n : Nat} (h : decide (k ≤ o) = true) : kUp fPa o n k = k := by
  cases n with
  | zero => rfl
  | succ n => unfold kUp; rw [h]; rfl
theorem kUp_step {fPa : Nat → Int32} {o k : Int32} {n : Nat} (h : decide (k ≤ o) = false) : kUp fPa o (n + 1) k = kUp fPa o n (fPa k.toNatClampNeg) := by
  show (bif decide (k ≤ o) then k else kUp fPa o n (fPa k.toNatClampNeg)) = _
  rw [h]; rfl
theorem kDs_in {fPa fR : Nat → Int32} {S : Nat → Int64} {o : Int32} {k : Nat} {best : Int32} {N : Nat} (hk : k < N) (h : best = -1 ∨ ∃ b, b < N ∧ best = nI b) : kDs fPa fR S o k best = -1 ∨ ∃ b, b < N ∧ kDs fPa fR S o k best = nI b := by
  unfold kDs
  cases (!decide (fR k = (-1)) && kBl fPa (nI k) o) <;> cases decide (best = (-1)) <;> cases decide (lg_cmp (S k) (S best.toNatClampNeg) ≤ 0) <;> first | exact h | exact Or.inr ⟨k, hk, rfl⟩
theorem kDr_in {fPa fR : Nat → Int32} {S : Nat → Int64} {o : Int32} {i : Nat} : ∀ n, kDr fPa fR S o i n = -1 ∨ ∃ b, b < i + n ∧ kDr fPa fR S o i n = nI b
  | 0 => Or.inl rfl
  | n + 1 => by
    show kDs fPa fR S o (i + n) (kDr fPa fR S o i n) = -1 ∨ _
    refine kDs_in (by omega) ?_
    rcases kDr_in (fPa := fPa) (fR := fR) (S := S) (o := o) (i := i) n with h | ⟨b, h1, h2⟩
    · exact Or.inl h
    · exact Or.inr ⟨b, by omega, h2⟩
theorem kDr_vin {fPa fR : Nat → Int32} {S : Nat → Int64} {o : Int32} {i n : Nat} (hn : i + n ≤ 30) (h : decide (kDr fPa fR S o i n = (-1)) = false) : vp_in (kDr fPa fR S o i n) 30 := by
  rcases kDr_in (fPa := fPa) (fR := fR) (S := S) (o := o) (i := i) n with h1 | ⟨b, h1, h2⟩
  · exact absurd h1 (of_decide_eq_false h)
  · rw [h2]; exact vp_in_nI (by omega) (by decide)
theorem k_orl {a b : Bool} (h : (!a || b) = true) (ha : a = true) : b = true := by subst ha; exact h
theorem k_nIneg {j : Nat} {o : Nat} (ho : o < 2 ^ 31) : decide ((-1 : Int32) ≤ nI o) = true := by
  apply decide_eq_true
  rw [k_i32le, nI_toInt ho]
  have : (-1 : Int32).toInt = -1 := rfl
  omega
def kDx (d : Int32) : Int32 := bif decide (d = (0 : Int32)) then 1 else (bif decide (d = 2) then (-1) else 0)
def kDy (d : Int32) : Int32 := bif decide (d = 1) then 1 else (bif decide (d = 3) then (-1) else 0)
/-- the place's number after k steps -/
def kXi (x y dx dy : Int32) (k : Nat) : Nat := 41 * (x + (nI k) * dx).toNatClampNeg + (y + (nI k) * dy).toNatClampNeg
def kOk (mk : Nat → Bool) (x y bx by9 ot dx dy q : Int32) (k : Nat) : Bool :=
  (kIn (x + (nI k) * dx) 0 40 && kIn (y + (nI k) * dy) 0 40) && (!mk (kXi x y dx dy k) || (decide (nI k = q) && (decide (x + (nI k) * dx = bx) && (decide (y + (nI k) * dy = by9) && !decide (ot < 3)))))
def kCg (mk : Nat → Bool) (x y bx by9 ot dx dy q : Int32) : Nat → Bool
  | 0 => true
  | k + 1 => kCg mk x y bx by9 ot dx dy q k && kOk mk x y bx by9 ot dx dy q (k + 1)
theorem kCg_at {mk : Nat → Bool} {x y bx by9 ot dx dy q : Int32} : ∀ {n k : Nat}, kCg mk x y bx by9 ot dx dy q n = true → 1 ≤ k → k ≤ n → kOk mk x y bx by9 ot dx dy q k = true
  | 0, k, _, h1, h2 => by omega
  | n + 1, k, h, h1, h2 => by
    have h3 : (kCg mk x y bx by9 ot dx dy q n && kOk mk x y bx by9 ot dx dy q (n + 1)) = true := h
    by_cases e : k = n + 1
    · rw [e]; exact k_andr h3
    · exact kCg_at (k_andl h3) h1 (by omega)
theorem kCg_no {mk : Nat → Bool} {x y bx by9 ot dx dy q : Int32} {n k : Nat} (h1 : 1 ≤ k) (h2 : k ≤ n) (h : kOk mk x y bx by9 ot dx dy q k = false) : kCg mk x y bx by9 ot dx dy q n = false := by
  cases hc : kCg mk x y bx by9 ot dx dy q n with
  | false => rfl
  | true => exact absurd ((kCg_at hc h1 h2).symm.trans h) (by decide)
def kWm (mk : Nat → Bool) (x y dx dy : Int32) : Nat → Nat → Bool
  | 0 => mk
  | j + 1 => va_up (kWm mk x y dx dy j) (kXi x y dx dy (j + 1)) true
def kWc (mk : Nat → Bool) (x y dx dy : Int32) (cl : Bool) : Nat → Bool
  | 0 => cl
  | j + 1 => kWc mk x y dx dy cl j || kWm mk x y dx dy j (kXi x y dx dy (j + 1))
def kWt (mk : Nat → Bool) (x y dx dy ot : Int32) : Nat → Int32
  | 0 => ot
  | j + 1 => kWt mk x y dx dy ot j + kb (!kWm mk x y dx dy j (kXi x y dx dy (j + 1)))
theorem kIx2 {x y dx dy : Int32} {k : Nat} (h1 : kIn (x + (nI k) * dx) 0 40 = true) (h2 : kIn (y + (nI k) * dy) 0 40 = true) : ((41 * (x + (nI k * dx))) + y) + (nI k * dy) = nI (kXi x y dx dy k) := by
  rw [Int32.add_assoc]
  exact kIx h1 h2
theorem kIn_1 {x : Int32} (h : kIn x 1 40 = true) : ∃ j, 1 ≤ j ∧ j ≤ 40 ∧ x = nI j := by
  obtain ⟨h1, h2⟩ := kIn_iff.mp h
  have e1 : (1 : Int32).toInt = 1 := rfl
  have e2 : (40 : Int32).toInt = 40 := rfl
  obtain ⟨j, hj, rfl⟩ := vp_in_of (x := x) (n := 41) (vp_in_iff.mpr ⟨by omega, by omega⟩) (by omega)
  rw [nI_toInt (by omega)] at h1
  exact ⟨j, by omega, by omega, rfl⟩
