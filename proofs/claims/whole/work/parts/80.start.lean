/-! ===== the start: the classes, the arrays, the statics, the texts ===== -/
set_option maxHeartbeats 4000000 in
set_option maxRecDepth 100000 in
theorem kArr {args : Array Value} {s : State} {t : FieldType} (h : (Cond.arrayClass t).before args s = true) : ∃ cA : ClassId, ArrOfT s cA t ∧ s.vm.findClass ("[" ++ t.toString) = some cA := by
  obtain ⟨c, k, comp, h1, h2, h3⟩ := Cond.arrayClass_spec h
  exact ⟨c, fun n z => ⟨(fun k h => by cases h), k, h2, comp, h3⟩, h1⟩
set_option maxHeartbeats 4000000 in
set_option maxRecDepth 100000 in
theorem kArrO {args : Array Value} {s : State} {C : String} (h : (Cond.arrayOver (.object C)).before args s = true) : ∃ cA : ClassId, ArrOfT s cA (.object C) ∧ va_RA s cA (.object C) := by
  obtain ⟨comp, c, k, h1, h2, h3, h4, h5⟩ := Cond.arrayOver_spec h
  exact ⟨c, fun n z => ⟨(fun k h => by cases h), k, h3, comp, h4⟩, k, comp, h3, h4, h1, h5⟩
set_option maxHeartbeats 4000000 in
set_option maxRecDepth 100000 in
theorem kTx1 {args : Array Value} {s : State} {k cc : Nat} {tx : String} (hc : s.vm.findClass RX3 = some cc) (h : (Cond.stringRef RX3 k tx).before args s = true) : ∃ a, vk_R RX3 k tx a s := by
  obtain ⟨k9, cf, i, a, -, -, -, -, -, h9⟩ := Cond.stringRef_spec hc h
  exact ⟨a, vk_R.of h h9⟩
set_option maxHeartbeats 4000000 in
set_option maxRecDepth 100000 in
theorem kTXs {args : Array Value} {s : State} {cc : Nat} (hc : s.vm.findClass RX3 = some cc) (hts : ∀ w ∈ lw_tbl, w.before args s = true) : kTX s := by
  intro q hq
  simp only [kTexts, List.mem_cons, List.not_mem_nil, or_false] at hq
  rcases hq with rfl | rfl | rfl | rfl | rfl | rfl | rfl | rfl | rfl | rfl | rfl | rfl | rfl
  · exact kTx1 hc (hts _ (lwm 573 rfl))
  · exact kTx1 hc (hts _ (lwm 572 rfl))
  · exact kTx1 hc (hts _ (lwm 547 rfl))
  · exact kTx1 hc (hts _ (lwm 563 rfl))
  · exact kTx1 hc (hts _ (lwm 617 rfl))
  · exact kTx1 hc (hts _ (lwm 392 rfl))
  · exact kTx1 hc (hts _ (lwm 266 rfl))
  · exact kTx1 hc (hts _ (lwm 678 rfl))
  · exact kTx1 hc (hts _ (lwm 629 rfl))
  · exact kTx1 hc (hts _ (lwm 458 rfl))
  · exact kTx1 hc (hts _ (lwm 397 rfl))
  · exact kTx1 hc (hts _ (lwm 364 rfl))
  · exact kTx1 hc (hts _ (lwm 327 rfl))
set_option maxHeartbeats 4000000 in
set_option maxRecDepth 100000 in
theorem kBads {args : Array Value} {s : State} (hts : ∀ w ∈ lw_tbl, w.before args s = true) : ∀ w ∈ kBad, va_Nw w s := by
  intro w hw
  simp only [kBad, List.mem_cons, List.not_mem_nil, or_false] at hw
  rcases hw with rfl | rfl | rfl | rfl | rfl | rfl | rfl | rfl | rfl | rfl | rfl | rfl
  · exact va_Nw.of rfl (hts _ (lwm 227 rfl))
  · exact va_Nw.of rfl (hts _ (lwm 320 rfl))
  · exact va_Nw.of rfl (hts _ (lwm 357 rfl))
  · exact va_Nw.of rfl (hts _ (lwm 944 rfl))
  · exact va_Nw.of rfl (hts _ (lwm 943 rfl))
  · exact va_Nw.of rfl (hts _ (lwm 953 rfl))
  · exact va_Nw.of rfl (hts _ (lwm 949 rfl))
  · exact va_Nw.of rfl (hts _ (lwm 231 rfl))
  · exact va_Nw.of rfl (hts _ (lwm 229 rfl))
  · exact va_Nw.of rfl (hts _ (lwm 233 rfl))
  · exact va_Nw.of rfl (hts _ (lwm 60 rfl))
  · exact va_Nw.of rfl (hts _ (lwm 189 rfl))
set_option maxHeartbeats 4000000 in
set_option maxRecDepth 100000 in
theorem kNos {args : Array Value} {s : State} (hfg : (Jvm.Cond.and given_1 narrow_1).before args s = true) : ∀ q ∈ kNo, va_Nc q.1 q.2 s := by
  intro q hq
  simp only [kNo, List.mem_cons, List.not_mem_nil, or_false] at hq
  rcases hq with rfl | rfl | rfl | rfl | rfl | rfl
  · exact va_Nc.of (flat_of_before _ hfg (.not (.castable "java/lang/IllegalArgumentException" "java/lang/IllegalStateException")) (by decide +kernel))
  · exact va_Nc.of (flat_of_before _ hfg (.not (.castable "java/lang/IllegalArgumentException" "java/lang/IndexOutOfBoundsException")) (by decide +kernel))
  · exact va_Nc.of (flat_of_before _ hfg (.not (.castable "java/lang/IllegalStateException" "java/lang/IllegalArgumentException")) (by decide +kernel))
  · exact va_Nc.of (flat_of_before _ hfg (.not (.castable "java/lang/IllegalStateException" "java/lang/IndexOutOfBoundsException")) (by decide +kernel))
  · exact va_Nc.of (flat_of_before _ hfg (.not (.castable "java/lang/IndexOutOfBoundsException" "java/lang/IllegalArgumentException")) (by decide +kernel))
  · exact va_Nc.of (flat_of_before _ hfg (.not (.castable "java/lang/IndexOutOfBoundsException" "java/lang/IllegalStateException")) (by decide +kernel))
set_option maxHeartbeats 4000000 in
set_option maxRecDepth 100000 in
theorem kZs {args : Array Value} {s : State} {cc : Nat} (hc : s.vm.findClass RX3 = some cc) (hts : ∀ w ∈ lw_tbl, w.before args s = true) (hgv : (Jvm.Cond.and given_1 narrow_1).before args s = true) : ∃ z mi : Nat, kZ z mi (fun q => s.heap.size ≤ q) s s.heap := by
  have hA0 : ∀ a : Nat, a < s.heap.size → ¬ (fun q => s.heap.size ≤ q) a := fun a h => Nat.not_le.mpr h
  have hfg := flat_of_before _ hgv
  obtain ⟨mi, hMi⟩ := va_Mi.of (hfg (.isRef (.mirror "[Ljava/lang/Object;")) (by decide +kernel))
  obtain ⟨z, hz, hT⟩ := va_Tof (N := 0) (f := fun _ => .null) (A := fun q => s.heap.size ≤ q) (tm := .static "java/util/ArrayList" "DEFAULTCAPACITY_EMPTY_ELEMENTDATA" "[Ljava/lang/Object;") (ty := .object "java/lang/Object") (by decide) (hfg (.arrayOf (.static "java/util/ArrayList" "DEFAULTCAPACITY_EMPTY_ELEMENTDATA" "[Ljava/lang/Object;") (.object "java/lang/Object")) (by decide +kernel)) (va_eqt (hfg (.eq (.length (.static "java/util/ArrayList" "DEFAULTCAPACITY_EMPTY_ELEMENTDATA" "[Ljava/lang/Object;")) (.int 0)) (by decide +kernel))) (fun j hj => absurd hj (Nat.not_lt_zero _)) hA0
  refine ⟨z, mi, kTXs hc hts, ⟨kBads hts, kNos hgv, hMi, va_AO.of (hts _ (lwm 521 rfl))⟩, ?_, ?_, ?_, hT⟩
  · exact vx_Zqof (hts _ (lwm 252 rfl)) (hts _ (lwm 36 rfl)) (hfg (.isRef (.static "java/lang/Throwable" "UNASSIGNED_STACK" "[Ljava/lang/StackTraceElement;")) (by decide +kernel)) hA0
  · exact vx_Zqof (hts _ (lwm 254 rfl)) (hts _ (lwm 36 rfl)) (hfg (.isRef (.static "java/lang/Throwable" "SUPPRESSED_SENTINEL" "Ljava/util/List;")) (by decide +kernel)) hA0
  · exact va_Zof (hts _ (lwm 119 rfl)) (hts _ (lwm 34 rfl)) hz hA0
set_option maxHeartbeats 4000000 in
set_option maxRecDepth 100000 in
theorem kKs {args : Array Value} {s : State} (hts : ∀ w ∈ lw_tbl, w.before args s = true) : ∃ (D : va_G) (cI cJ cZ cO : ClassId), va_K D vwCl (kTy cI cJ cZ cO) s ∧ ∃ cc, s.vm.findClass RX3 = some cc := by
  obtain ⟨c0, i0, hk0⟩ := u_known (C := RJx4a65c) (T := TJx4a65c) (N := 3) (n := 3) hts inJx4a65c (hts _ (lwm 107 rfl))
  obtain ⟨c1, i1, hk1⟩ := u_known (C := RX0) (T := TX0) (N := 12) (n := 12) hts inX0 (hts _ (lwm 59 rfl))
  obtain ⟨c2, i2, hk2⟩ := u_known (C := RX1) (T := TX1) (N := 6) (n := 6) hts inX1 (hts _ (lwm 574 rfl))
  obtain ⟨c3, i3, hk3⟩ := u_known (C := RX2) (T := TX2) (N := 3) (n := 3) hts inX2 (hts _ (lwm 459 rfl))
  obtain ⟨c4, i4, hk4⟩ := u_known (C := RX3) (T := TX3) (N := 7) (n := 7) hts inX3 (hts _ (lwm 51 rfl))
  obtain ⟨c5, i5, hk5⟩ := u_known (C := RX4) (T := TX4) (N := 26) (n := 26) hts inX4 (hts _ (lwm 680 rfl))
  obtain ⟨cI, aI1, aI2⟩ := kArr (t := .int) (hts _ (lwm 105 rfl))
  obtain ⟨cJ, aJ1, aJ2⟩ := kArr (t := .long) (hts _ (lwm 104 rfl))
  obtain ⟨cZ, aZ1, aZ2⟩ := kArr (t := .boolean) (hts _ (lwm 764 rfl))
  obtain ⟨cO, aO1, aO2⟩ := kArrO (C := "java/lang/Object") (hts _ (lwm 521 rfl))
  refine ⟨(fun k => if k = 0 then c0 else if k = 1 then c1 else if k = 2 then c2 else if k = 3 then c3 else if k = 4 then c4 else c5, fun k => if k = 0 then i0 else if k = 1 then i1 else if k = 2 then i2 else if k = 3 then i3 else if k = 4 then i4 else i5), cI, cJ, cZ, cO, ⟨?_, ?_⟩, c4, hk4.2.1⟩
  · intro k q hq
    match k, hq with
    | 0, hq => cases hq; exact hk0
    | 1, hq => cases hq; exact hk1
    | 2, hq => cases hq; exact hk2
    | 3, hq => cases hq; exact hk3
    | 4, hq => cases hq; exact hk4
    | 5, hq => cases hq; exact hk5
    | k + 6, hq => cases hq
  · intro k q hq
    match k, hq with
    | 0, hq => cases hq; exact ⟨aI1, aI2⟩
    | 1, hq => cases hq; exact ⟨aJ1, aJ2⟩
    | 2, hq => cases hq; exact ⟨aZ1, aZ2⟩
    | 3, hq => cases hq; exact ⟨aO1, aO2⟩
    | k + 4, hq => cases hq
set_option maxHeartbeats 4000000 in
set_option maxRecDepth 100000 in
theorem kJ0 (cI cJ cZ cO : ClassId) (z hs hm hd ho hwn hq lr li hpr hM hH hA hP hPa hR hW hMe hV hDo hS : Nat) : kJ cI cJ cZ cO z hs hm 0 ((hd, .inr (1, [.ref ho, .ref hwn, .ref hq, .int (nI 0), .int 0, .int 0, .int 0, .int 0, .int 0, .int 0, .int (kb false), .int (kb false)])) :: (ho, .inl (cJ, 41, .inr (.inl (fun i9 => kRow ((fun _ _ => false) i9))))) :: (hwn, .inl (cJ, 41, .inr (.inl (fun i9 => kRow ((fun _ _ => false) i9))))) :: (hq, .inl (cI, 10, .inl (fun _ => 0))) :: (hs, .inr (4, [.ref hd, .ref lr, .ref li, .ref hpr, .int 10, .int 5, .long 0])) :: (hpr, .inl (cI, 3, .inl kP1)) :: [(lr, .inr (0, [.int 0, .ref z, .int (nI 0)])), (li, .inr (0, [.int 0, .ref z, .int (nI 0)]))]) ((hm, .inr (5, [.ref hM, .int (kb false), .int (kb false), .int 0, .int 0, .int 0, .int 0, .int 0, .int 0, .ref hH, .int (nI 0), .int 10, .ref hA, .int (nI 0), .ref hP, .ref hPa, .ref hR, .ref hW, .ref hMe, .ref hV, .ref hDo, .ref hS, .int (nI 0), .int 5, .long 0, .int 0])) :: (hM, .inl (cZ, 1681, .inl (fun j9 => kb ((fun _ => false) j9)))) :: (hH, .inl (cI, 10, .inl (fun _ => 0))) :: (hA, .inl (cI, 36, .inl (fun _ => 0))) :: (hP, .inl (cI, 3, .inl kP1)) :: (hPa, .inl (cI, 30, .inl (fun _ => 0))) :: (hR, .inl (cI, 30, .inl (fun _ => 0))) :: (hW, .inl (cI, 30, .inl (fun _ => 0))) :: (hMe, .inl (cI, 30, .inl (fun _ => 0))) :: (hV, .inl (cI, 30, .inl (fun _ => 0))) :: (hDo, .inl (cI, 30, .inl (fun _ => 0))) :: (hS, .inl (cJ, 30, .inr (.inl (fun _ => 0)))) :: []) := by
  refine ⟨hd, ho, hwn, hq, fun _ _ => false, fun _ _ => false, fun _ => 0, 0, 0, 0, 0, 0, 0, 0, false, false, lr, li, hpr, 10, 5, 0, kP1, [(lr, .inr (0, [.int 0, .ref z, .int (nI 0)])), (li, .inr (0, [.int 0, .ref z, .int (nI 0)]))], 0, fun _ => 0, fun _ => 0, fun _ => some 0, fun _ => some 0, fun _ => 0, fun _ => 0, fun _ => 0, fun _ => 0, fun _ => 0, 0, fun _ => 0, fun _ => 0, 7, 7, z, 0, 0, fun _ => none, 6, 6, z, 0, 0, fun _ => none, hM, hH, hA, hP, hPa, hR, hW, hMe, hV, hDo, hS, fun _ => false, fun _ => 0, fun _ => 0, false, 0, 0, rfl, ?_, rfl, ?_, ?_, by decide⟩
  · refine ⟨rfl, rfl, ⟨by omega, by omega⟩, ⟨fun j h => absurd h (Nat.not_lt_zero _), fun j q h => absurd h (Nat.not_lt_zero _), fun i j h => absurd h (Nat.not_lt_zero _)⟩, ⟨fun j h => absurd h (Nat.not_lt_zero _), fun i j h => absurd h (Nat.not_lt_zero _)⟩, fun j q h => absurd h (Nat.not_lt_zero _), ⟨rfl, Or.inl ⟨rfl, rfl, rfl⟩⟩, ⟨rfl, Or.inl ⟨rfl, rfl, rfl⟩⟩, ⟨by omega, by omega, by omega, by omega⟩, ⟨by omega, by omega, by omega, by omega, Nat.le_of_ble_eq_true rfl⟩, fun j h => absurd h (Nat.not_lt_zero _), fun j h => absurd h (Nat.not_lt_zero _)⟩
  · exact ⟨rfl, fun _ => rfl, by decide, by decide, by omega, fun j h => absurd h (Nat.not_lt_zero _), fun j _ => rfl, fun j => (by decide : 0 ≤ (0 : Int32).toInt ∧ (0 : Int32).toInt ≤ 1600), fun a b _ _ => rfl, fun h => by cases h⟩
  · refine ⟨fun j _ => ⟨rfl, rfl, rfl⟩, fun j q h => absurd h (Nat.not_lt_zero _), fun j h => absurd h (Nat.not_lt_zero _), fun q h => absurd h (Nat.not_lt_zero _), fun q hq => ?_, fun i j _ h => absurd h (Nat.not_lt_zero _)⟩
    match q, hq with
    | 0, _ => decide
    | 1, _ => decide
    | 2, _ => decide
    | q + 3, h => omega
