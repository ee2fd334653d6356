/-! ===== truth values as numbers, and rows over them ===== -/
def kb (b : Bool) : Int32 := if b then 1 else 0
theorem kb_f {b : Bool} (h : kb b = 0) : b = false := by
  cases b with
  | false => rfl
  | true => exact absurd h (by decide)
theorem kb_t {b : Bool} (h : ¬ kb b = 0) : b = true := by
  cases b with
  | false => exact absurd rfl h
  | true => rfl
theorem kb_nar (b : Bool) : narrow .boolean (.int (kb b)) = .int (kb b) := by cases b <;> rfl
theorem kb_and (b : Bool) : kb b &&& 1 = kb b := by cases b <;> rfl
theorem k_catq (v : Option Nat) : (va_rf v).category = 1 := by cases v <;> rfl
theorem k_narq (v : Option Nat) {ty : FieldType} (h : (match ty with | .object _ => true | .array _ => true | _ => false) = true) : narrow ty (va_rf v) = va_rf v := by
  cases v <;> cases ty <;> first | rfl | exact absurd h (by decide)
theorem k_fitq (v : Option Nat) {ty : FieldType} (h : (match ty with | .object _ => true | .array _ => true | _ => false) = true) : fits ty (va_rf v) = true := by
  cases v <;> cases ty <;> first | rfl | exact absurd h (by decide)
section KB3
variable {p : Program} {l : Launch} {e : Env} {R : Room} {s : State} {m : MethodId} {args : Array Value} {below : List Frame} {meth : Method} {c : Code} {H : Heap} {locs : List Loc} {cells slots : Nat} {Q : State → Prop}
variable {cc : ByteArray} {pc : Nat} {ls : Array Slot} {rest : List Value}
theorem k_topi {x y : Int32} (h : x = y) (k : W p l e R s m args below meth c H locs cells slots Q (F0 m pc ls (.int y :: rest))) : W p l e R s m args below meth c H locs cells slots Q (F0 m pc ls (.int x :: rest)) := h ▸ k
theorem k_topl {x y : Int64} (h : x = y) (k : W p l e R s m args below meth c H locs cells slots Q (F0 m pc ls (.long y :: rest))) : W p l e R s m args below meth c H locs cells slots Q (F0 m pc ls (.long x :: rest)) := h ▸ k
theorem k_topq {x y : Option Nat} (h : x = y) (k : W p l e R s m args below meth c H locs cells slots Q (F0 m pc ls (va_rf y :: rest))) : W p l e R s m args below meth c H locs cells slots Q (F0 m pc ls (va_rf x :: rest)) := h ▸ k
theorem k_ifB_eq (hexec : p.tables.exec = Jvm.exec) (hb : c.code = cc) {b : Bool} {off : Int} {tgt : Nat} (hdg : decode cc pc = .ok (.ifCond .eq off, 3)) (ht : (pc : Int) + off = (tgt : Int))
    (kt : b = false → W p l e R s m args below meth c H locs cells slots Q (F0 m tgt ls rest)) (kf : b = true → W p l e R s m args below meth c H locs cells slots Q (F0 m (pc + 3) ls rest)) : W p l e R s m args below meth c H locs cells slots Q (F0 m pc ls (.int (kb b) :: rest)) :=
  lv_if_eq hexec hb hdg ht (fun h => kt (kb_f h)) (fun h => kf (kb_t h))
theorem k_ifB_ne (hexec : p.tables.exec = Jvm.exec) (hb : c.code = cc) {b : Bool} {off : Int} {tgt : Nat} (hdg : decode cc pc = .ok (.ifCond .ne off, 3)) (ht : (pc : Int) + off = (tgt : Int))
    (kt : b = true → W p l e R s m args below meth c H locs cells slots Q (F0 m tgt ls rest)) (kf : b = false → W p l e R s m args below meth c H locs cells slots Q (F0 m (pc + 3) ls rest)) : W p l e R s m args below meth c H locs cells slots Q (F0 m pc ls (.int (kb b) :: rest)) :=
  lv_if_ne hexec hb hdg ht (fun h => kt (kb_t h)) (fun h => kf (kb_f h))
theorem k_if_eq (hexec : p.tables.exec = Jvm.exec) (hb : c.code = cc) {x : Int32} {off : Int} {tgt : Nat} (hdg : decode cc pc = .ok (.ifCond .eq off, 3)) (ht : (pc : Int) + off = (tgt : Int))
    (kt : decide (x = 0) = true → W p l e R s m args below meth c H locs cells slots Q (F0 m tgt ls rest)) (kf : decide (x = 0) = false → W p l e R s m args below meth c H locs cells slots Q (F0 m (pc + 3) ls rest)) : W p l e R s m args below meth c H locs cells slots Q (F0 m pc ls (.int x :: rest)) :=
  lv_if_eq hexec hb hdg ht (fun h => kt (decide_eq_true h)) (fun h => kf (decide_eq_false h))
theorem k_if_ne (hexec : p.tables.exec = Jvm.exec) (hb : c.code = cc) {x : Int32} {off : Int} {tgt : Nat} (hdg : decode cc pc = .ok (.ifCond .ne off, 3)) (ht : (pc : Int) + off = (tgt : Int))
    (kt : decide (x = 0) = false → W p l e R s m args below meth c H locs cells slots Q (F0 m tgt ls rest)) (kf : decide (x = 0) = true → W p l e R s m args below meth c H locs cells slots Q (F0 m (pc + 3) ls rest)) : W p l e R s m args below meth c H locs cells slots Q (F0 m pc ls (.int x :: rest)) :=
  lv_if_ne hexec hb hdg ht (fun h => kt (decide_eq_false h)) (fun h => kf (decide_eq_true (Decidable.not_not.mp (fun q => q h))))
theorem k_if_lt (hexec : p.tables.exec = Jvm.exec) (hb : c.code = cc) {x : Int32} {off : Int} {tgt : Nat} (hdg : decode cc pc = .ok (.ifCond .lt off, 3)) (ht : (pc : Int) + off = (tgt : Int))
    (kt : decide (x < 0) = true → W p l e R s m args below meth c H locs cells slots Q (F0 m tgt ls rest)) (kf : decide (x < 0) = false → W p l e R s m args below meth c H locs cells slots Q (F0 m (pc + 3) ls rest)) : W p l e R s m args below meth c H locs cells slots Q (F0 m pc ls (.int x :: rest)) :=
  lv_if_lt hexec hb hdg ht (fun h => kt (decide_eq_true h)) (fun h => kf (decide_eq_false h))
theorem k_if_ge (hexec : p.tables.exec = Jvm.exec) (hb : c.code = cc) {x : Int32} {off : Int} {tgt : Nat} (hdg : decode cc pc = .ok (.ifCond .ge off, 3)) (ht : (pc : Int) + off = (tgt : Int))
    (kt : decide (0 ≤ x) = true → W p l e R s m args below meth c H locs cells slots Q (F0 m tgt ls rest)) (kf : decide (0 ≤ x) = false → W p l e R s m args below meth c H locs cells slots Q (F0 m (pc + 3) ls rest)) : W p l e R s m args below meth c H locs cells slots Q (F0 m pc ls (.int x :: rest)) :=
  lv_if_ge hexec hb hdg ht (fun h => kt (decide_eq_true h)) (fun h => kf (decide_eq_false h))
theorem k_if_gt (hexec : p.tables.exec = Jvm.exec) (hb : c.code = cc) {x : Int32} {off : Int} {tgt : Nat} (hdg : decode cc pc = .ok (.ifCond .gt off, 3)) (ht : (pc : Int) + off = (tgt : Int))
    (kt : decide (0 < x) = true → W p l e R s m args below meth c H locs cells slots Q (F0 m tgt ls rest)) (kf : decide (0 < x) = false → W p l e R s m args below meth c H locs cells slots Q (F0 m (pc + 3) ls rest)) : W p l e R s m args below meth c H locs cells slots Q (F0 m pc ls (.int x :: rest)) :=
  lv_if_gt hexec hb hdg ht (fun h => kt (decide_eq_true h)) (fun h => kf (decide_eq_false h))
theorem k_if_le (hexec : p.tables.exec = Jvm.exec) (hb : c.code = cc) {x : Int32} {off : Int} {tgt : Nat} (hdg : decode cc pc = .ok (.ifCond .le off, 3)) (ht : (pc : Int) + off = (tgt : Int))
    (kt : decide (x ≤ 0) = true → W p l e R s m args below meth c H locs cells slots Q (F0 m tgt ls rest)) (kf : decide (x ≤ 0) = false → W p l e R s m args below meth c H locs cells slots Q (F0 m (pc + 3) ls rest)) : W p l e R s m args below meth c H locs cells slots Q (F0 m pc ls (.int x :: rest)) :=
  lv_if_le hexec hb hdg ht (fun h => kt (decide_eq_true h)) (fun h => kf (decide_eq_false h))
theorem k_icmp_eq (hexec : p.tables.exec = Jvm.exec) (hb : c.code = cc) {x y : Int32} {off : Int} {tgt : Nat} (hdg : decode cc pc = .ok (.if_icmp .eq off, 3)) (ht : (pc : Int) + off = (tgt : Int))
    (kt : decide (x = y) = true → W p l e R s m args below meth c H locs cells slots Q (F0 m tgt ls rest)) (kf : decide (x = y) = false → W p l e R s m args below meth c H locs cells slots Q (F0 m (pc + 3) ls rest)) : W p l e R s m args below meth c H locs cells slots Q (F0 m pc ls (.int y :: .int x :: rest)) :=
  lv_icmp_eq hexec hb hdg ht (fun h => kt (decide_eq_true h)) (fun h => kf (decide_eq_false h))
theorem k_icmp_ne (hexec : p.tables.exec = Jvm.exec) (hb : c.code = cc) {x y : Int32} {off : Int} {tgt : Nat} (hdg : decode cc pc = .ok (.if_icmp .ne off, 3)) (ht : (pc : Int) + off = (tgt : Int))
    (kt : decide (x = y) = false → W p l e R s m args below meth c H locs cells slots Q (F0 m tgt ls rest)) (kf : decide (x = y) = true → W p l e R s m args below meth c H locs cells slots Q (F0 m (pc + 3) ls rest)) : W p l e R s m args below meth c H locs cells slots Q (F0 m pc ls (.int y :: .int x :: rest)) :=
  lv_icmp_ne hexec hb hdg ht (fun h => kt (decide_eq_false h)) (fun h => kf (decide_eq_true h))
theorem k_icmp_lt (hexec : p.tables.exec = Jvm.exec) (hb : c.code = cc) {x y : Int32} {off : Int} {tgt : Nat} (hdg : decode cc pc = .ok (.if_icmp .lt off, 3)) (ht : (pc : Int) + off = (tgt : Int))
    (kt : decide (x < y) = true → W p l e R s m args below meth c H locs cells slots Q (F0 m tgt ls rest)) (kf : decide (x < y) = false → W p l e R s m args below meth c H locs cells slots Q (F0 m (pc + 3) ls rest)) : W p l e R s m args below meth c H locs cells slots Q (F0 m pc ls (.int y :: .int x :: rest)) :=
  lv_icmp_lt hexec hb hdg ht (fun h => kt (decide_eq_true h)) (fun h => kf (decide_eq_false h))
theorem k_icmp_ge (hexec : p.tables.exec = Jvm.exec) (hb : c.code = cc) {x y : Int32} {off : Int} {tgt : Nat} (hdg : decode cc pc = .ok (.if_icmp .ge off, 3)) (ht : (pc : Int) + off = (tgt : Int))
    (kt : decide (y ≤ x) = true → W p l e R s m args below meth c H locs cells slots Q (F0 m tgt ls rest)) (kf : decide (y ≤ x) = false → W p l e R s m args below meth c H locs cells slots Q (F0 m (pc + 3) ls rest)) : W p l e R s m args below meth c H locs cells slots Q (F0 m pc ls (.int y :: .int x :: rest)) :=
  lv_icmp_ge hexec hb hdg ht (fun h => kt (decide_eq_true h)) (fun h => kf (decide_eq_false h))
theorem k_icmp_gt (hexec : p.tables.exec = Jvm.exec) (hb : c.code = cc) {x y : Int32} {off : Int} {tgt : Nat} (hdg : decode cc pc = .ok (.if_icmp .gt off, 3)) (ht : (pc : Int) + off = (tgt : Int))
    (kt : decide (y < x) = true → W p l e R s m args below meth c H locs cells slots Q (F0 m tgt ls rest)) (kf : decide (y < x) = false → W p l e R s m args below meth c H locs cells slots Q (F0 m (pc + 3) ls rest)) : W p l e R s m args below meth c H locs cells slots Q (F0 m pc ls (.int y :: .int x :: rest)) :=
  lv_icmp_gt hexec hb hdg ht (fun h => kt (decide_eq_true h)) (fun h => kf (decide_eq_false h))
theorem k_icmp_le (hexec : p.tables.exec = Jvm.exec) (hb : c.code = cc) {x y : Int32} {off : Int} {tgt : Nat} (hdg : decode cc pc = .ok (.if_icmp .le off, 3)) (ht : (pc : Int) + off = (tgt : Int))
    (kt : decide (x ≤ y) = true → W p l e R s m args below meth c H locs cells slots Q (F0 m tgt ls rest)) (kf : decide (x ≤ y) = false → W p l e R s m args below meth c H locs cells slots Q (F0 m (pc + 3) ls rest)) : W p l e R s m args below meth c H locs cells slots Q (F0 m pc ls (.int y :: .int x :: rest)) :=
  lv_icmp_le hexec hb hdg ht (fun h => kt (decide_eq_true h)) (fun h => kf (decide_eq_false h))
/-- references that may be null: loads, stores, tests -/
theorem k_acmp_eq (hexec : p.tables.exec = Jvm.exec) (hb : c.code = cc) {rx ry : Option Nat} {off : Int} {tgt : Nat} (hdg : decode cc pc = .ok (.if_acmp .eq off, 3)) (ht : (pc : Int) + off = (tgt : Int))
    (kt : decide (rx = ry) = true → W p l e R s m args below meth c H locs cells slots Q (F0 m tgt ls rest)) (kf : decide (rx = ry) = false → W p l e R s m args below meth c H locs cells slots Q (F0 m (pc + 3) ls rest)) : W p l e R s m args below meth c H locs cells slots Q (F0 m pc ls (va_rf ry :: va_rf rx :: rest)) :=
  lv_acmp_eq hexec hb hdg ht (fun h => kt (decide_eq_true h)) (fun h => kf (decide_eq_false h))
theorem k_acmp_ne (hexec : p.tables.exec = Jvm.exec) (hb : c.code = cc) {rx ry : Option Nat} {off : Int} {tgt : Nat} (hdg : decode cc pc = .ok (.if_acmp .ne off, 3)) (ht : (pc : Int) + off = (tgt : Int))
    (kt : decide (rx = ry) = false → W p l e R s m args below meth c H locs cells slots Q (F0 m tgt ls rest)) (kf : decide (rx = ry) = true → W p l e R s m args below meth c H locs cells slots Q (F0 m (pc + 3) ls rest)) : W p l e R s m args below meth c H locs cells slots Q (F0 m pc ls (va_rf ry :: va_rf rx :: rest)) :=
  lv_acmp_ne hexec hb hdg ht (fun h => kt (decide_eq_false h)) (fun h => kf (decide_eq_true h))
theorem k_ifnull (hexec : p.tables.exec = Jvm.exec) (hb : c.code = cc) {x : Option Nat} {off : Int} {tgt : Nat} (hdg : decode cc pc = .ok (.ifnull off, 3)) (ht : (pc : Int) + off = (tgt : Int))
    (kt : x.isSome = false → W p l e R s m args below meth c H locs cells slots Q (F0 m tgt ls rest)) (kf : x.isSome = true → W p l e R s m args below meth c H locs cells slots Q (F0 m (pc + 3) ls rest)) : W p l e R s m args below meth c H locs cells slots Q (F0 m pc ls (va_rf x :: rest)) := by
  cases x with
  | none => exact lv_ifnullN hexec hb hdg ht (kt rfl)
  | some a => exact lv_ifnull hexec hb hdg (kf rfl)
theorem k_ifnonnull (hexec : p.tables.exec = Jvm.exec) (hb : c.code = cc) {x : Option Nat} {off : Int} {tgt : Nat} (hdg : decode cc pc = .ok (.ifnonnull off, 3)) (ht : (pc : Int) + off = (tgt : Int))
    (kt : x.isSome = true → W p l e R s m args below meth c H locs cells slots Q (F0 m tgt ls rest)) (kf : x.isSome = false → W p l e R s m args below meth c H locs cells slots Q (F0 m (pc + 3) ls rest)) : W p l e R s m args below meth c H locs cells slots Q (F0 m pc ls (va_rf x :: rest)) := by
  cases x with
  | none => exact lv_ifnonnullN hexec hb hdg (kf rfl)
  | some a => exact lv_ifnonnull hexec hb hdg ht (kt rfl)
end KB3
section KB4
variable {p : Program} {l : Launch} {e : Env} {R : Room} {s : State} {m : MethodId} {args : Array Value} {below : List Frame} {meth : Method} {c : Code} {H : Heap} {locs : List Loc} {cells slots : Nat} {Q : State → Prop}
variable {cc : ByteArray} {own : String} {wsm : List Cond} {nL : Nat} {D : va_G} {ty : List (ClassId × FieldType)} {z mi : Nat} {A : Nat → Prop} {ws : va_W} {pc : Nat} {ls : Array Slot} {rest : List Value} {mc ms : Nat}
/-- a truth value or a number made on several ways -/
theorem k_join {α : Type} (F : α → JFrame) (P : α → Prop) {g : JFrame} (J : ∀ v : α, P v → W p l e R s m args below meth c H locs cells slots Q (F v)) (K : (∀ v : α, P v → W p l e R s m args below meth c H locs cells slots Q (F v)) → W p l e R s m args below meth c H locs cells slots Q g) : W p l e R s m args below meth c H locs cells slots Q g := K J
theorem k_joinH {α : Type} (F : α → JFrame) (P : α → Prop) (ws0 : va_W) {g : JFrame} (J : ∀ v : α, P v → ∀ (H : Heap) (locs : List Loc), kG D A s ws0 H locs → W p l e R s m args below meth c H locs cells slots Q (F v)) (K : (∀ v : α, P v → ∀ (H : Heap) (locs : List Loc), kG D A s ws0 H locs → W p l e R s m args below meth c H locs cells slots Q (F v)) → W p l e R s m args below meth c H locs cells slots Q g) : W p l e R s m args below meth c H locs cells slots Q g := K J
/-- not caught here -/
theorem k_out {E : String} {ce : Cell} {q : Addr} {Qc : Array Value → State → Outcome → State → Prop} {px : String → va_W → Prop} (hC : kC p l s m args meth c cc own wsm nL D ty z mi A) (hG : kG D A s ws H locs) (h1 : H[q]? = some ce) (h2 : ce.vm = .none) (h3 : s.vm.findClass E = some ce.cls) (hx : px E ws) (hc : cells ≤ mc) (hs : slots ≤ ms) :
    vx_W p l e R s m args below meth c H locs cells slots (vx_MQ below Qc (kXx D px A) args s mc ms A) (F0 m pc ls rest) q :=
  vx_out (fun x h => (hC.et x h).elim) hC.k h1 h2 h3 (fun t ht _ => ⟨ws, hx, by rw [ht]; exact hG.1, hG.2.1, hG.2.2.F ht⟩) hG.2.2.2.2 hc hs
end KB4
/-- within its range -/
def kIn (x a b : Int32) : Bool := !decide (x < a) && !decide (b < x)
theorem kb_fit (b : Bool) : fits .boolean (.int (kb b)) = true := by cases b <;> rfl
theorem k_updb (mk : Nat → Bool) (j : Nat) (b : Bool) : upd (fun k => kb (mk k)) j (vp_nar .boolean (kb b)) = fun k => kb (va_up mk j b k) := by
  funext k
  unfold upd va_up
  by_cases h : k = j
  · rw [if_pos h, if_pos h]; cases b <;> rfl
  · rw [if_neg h, if_neg h]
theorem k_i32le {a b : Int32} : a ≤ b ↔ a.toInt ≤ b.toInt := Int32.le_iff_toInt_le
theorem k_i32lt {a b : Int32} : a < b ↔ a.toInt < b.toInt := Int32.lt_iff_toInt_lt
theorem k_nI1 {n : Nat} (h : n < 2 ^ 31) : (nI n - 1).toInt = (n : Int) - 1 := by
  cases n with
  | zero => rfl
  | succ n => rw [nI_pred, nI_toInt (by omega)]; omega
theorem kIn_iff {x a b : Int32} : kIn x a b = true ↔ a.toInt ≤ x.toInt ∧ x.toInt ≤ b.toInt := by
  unfold kIn
  rw [Bool.and_eq_true, Bool.not_eq_true', Bool.not_eq_true', decide_eq_false_iff_not, decide_eq_false_iff_not, Int32.not_lt, Int32.not_lt, k_i32le, k_i32le]
theorem kIn_ex {x : Int32} {n : Nat} (hn : n < 2 ^ 31) (h : kIn x 0 (nI n - 1) = true) : ∃ j, j < n ∧ x = nI j := by
  obtain ⟨h1, h2⟩ := kIn_iff.mp h
  rw [k_nI1 hn] at h2
  have h3 : (0 : Int32).toInt = 0 := rfl
  refine vp_in_of (n := n) (vp_in_iff.mpr ⟨by omega, by omega⟩) hn
theorem kIn_in {x : Int32} {n N : Nat} (h : kIn x 0 (nI n - 1) = true) (hn : n ≤ N) (hN : N < 2 ^ 31) : vp_in x N := by
  obtain ⟨j, hj, rfl⟩ := kIn_ex (by omega) h
  exact vp_in_nI (by omega) hN
theorem kPar_in {x : Int32} {n N : Nat} (h : (decide (x = (-1)) || kIn x 0 (nI n - 1)) = true) (hn : n ≤ N) (hN : N < 2 ^ 31) : x = -1 ∨ vp_in x N := by
  rw [Bool.or_eq_true] at h
  rcases h with h | h
  · exact Or.inl (of_decide_eq_true h)
  · exact Or.inr (kIn_in h hn hN)
theorem kLt {n : Nat} {c : Int32} (C : Nat) (hc : c = nI C) (hC : C < 2 ^ 31) (hn : n < 2 ^ 31) (h : decide (c ≤ nI n) = false) : n < C := by
  subst hc
  have := of_decide_eq_false h
  rw [nI_leI hC hn] at this
  omega
/-- the price of a rate, the quantity, the sum of a leaf -/
def kCt (fA fP : Nat → Int32) (q : Nat) : Int32 := fA (3 * q) * fP 0 + fA (3 * q + 1) * fP 1 + fA (3 * q + 2) * fP 2
def kQt (me wa : Int32) : Int32 := ((me.toInt64 * (100 + wa).toInt64 + 99) / 100).toInt32
def kLf (fR : Nat → Int32) (x : Int32) : Bool := !decide (x = (-1)) && !decide (fR x.toNatClampNeg = (-1))
theorem k_andl {a b : Bool} (h : (a && b) = true) : a = true := ((Bool.and_eq_true _ _).mp h).1
theorem k_andr {a b : Bool} (h : (a && b) = true) : b = true := ((Bool.and_eq_true _ _).mp h).2
theorem k_notf {a : Bool} (h : (!a) = true) : a = false := by cases a <;> first | rfl | exact absurd h (by decide)
section KB5
variable {p : Program} {l : Launch} {e : Env} {R : Room} {s : State} {m : MethodId} {args : Array Value} {below : List Frame} {meth : Method} {c : Code} {H : Heap} {locs : List Loc} {cells slots : Nat} {Q : State → Prop}
variable {D : va_G} {A : Nat → Prop} {ls : Array Slot} {nL : Nat}
/-- a loop: from its head, with a measure that falls -/
theorem k_loop {σ : Type} (I : σ → Prop) (μ : σ → Nat) (Wd : σ → va_W) (LV : σ → List (Nat × Value)) (pcH : Nat) (stk : List Value)
    (body : ∀ q : σ, I q → (∀ q' : σ, I q' → μ q' < μ q → ∀ (H : Heap) (locs : List Loc) (ls : Array Slot), kG D A s (Wd q') H locs → lv_has ls nL (LV q') → W p l e R s m args below meth c H locs cells slots Q (F0 m pcH ls stk)) →
      ∀ (H : Heap) (locs : List Loc) (ls : Array Slot), kG D A s (Wd q) H locs → lv_has ls nL (LV q) → W p l e R s m args below meth c H locs cells slots Q (F0 m pcH ls stk))
    (q0 : σ) (h0 : I q0) (hG : kG D A s (Wd q0) H locs) (hl : lv_has ls nL (LV q0)) : W p l e R s m args below meth c H locs cells slots Q (F0 m pcH ls stk) := by
  have key : ∀ (n : Nat) (q : σ), I q → μ q < n → ∀ (H : Heap) (locs : List Loc) (ls : Array Slot), kG D A s (Wd q) H locs → lv_has ls nL (LV q) → W p l e R s m args below meth c H locs cells slots Q (F0 m pcH ls stk) := by
    intro n
    induction n with
    | zero => intro q _ h; exact absurd h (Nat.not_lt_zero _)
    | succ n ih =>
      intro q hI hq
      exact body q hI (fun q' hI' hlt => ih q' hI' (by omega))
  exact key (μ q0 + 1) q0 h0 (Nat.lt_succ_self _) H locs ls hG hl
end KB5
theorem kIn3 {x : Int32} (h : kIn x 0 2 = true) : vp_in x 3 := by
  have e : nI 3 - 1 = 2 := by decide
  exact kIn_in (n := 3) (by rw [e]; exact h) (Nat.le_refl _) (by decide)
/-- the area less the openings that are taken off, k of them -/
def kNs (fH : Nat → Int32) (lim a0 : Int32) : Nat → Int32
  | 0 => a0
  | k + 1 => kNs fH lim a0 k - (bif decide (fH k ≤ lim) then 0 else fH k)
def kWh (tw : Int32) : Int32 := (bif decide ((0 : Int32) ≤ tw) then tw else -tw) / 2
def kNet (fH : Nat → Int32) (lim tw : Int32) (no : Nat) : Int32 := bif decide ((0 : Int32) ≤ kNs fH lim (kWh tw) no) then kNs fH lim (kWh tw) no else 0
theorem k_bifor {a i r : Bool} (h : (bif a then r else i && r) = true) : (a || i) = true := by cases a <;> cases i <;> cases r <;> first | rfl | exact h
