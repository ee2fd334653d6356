/-! ===== the law from its entry; the claim ===== -/
def lw_Q2 (_ : Array Value) (s : State) (o : Outcome) (t : State) : Prop := o = .returned (some (.int 1)) ∧ Framed s o t [] 10000 100000
def lw_Z2 (below : List Frame) (a : Array Value) (s : State) : State → Prop := fun t => ∃ o, t.status = .running ∧ Ended t below o ∧ lw_Q2 a s o t
/-- the law's own end, with 1 on the stack, nothing written that was there before -/
theorem lw_ret2 {p : Program} {l : Launch} {e : Env} {s : State} {m : MethodId} {below : List Frame} {meth : Method} {c : Code} {b : Nat} (hx : p.tables.exec = Jvm.exec) (hb : c.code = code) (hr : meth.sig.returnType = ret) (hlocks : meth.locks = false) {pc : Nat} {H : Heap} {ls : Array Slot} (hdg : decode code pc = .ok (.ireturn, 1)) : W p l e room_1 s m #[Value.ref b] below meth c H [] 10000 100000 (lw_Z2 below #[Value.ref b] s) (F0 m pc ls [.int 1]) := by
  intro T hT X
  obtain ⟨fs, hret, hrun, hended, hW, hframe⟩ := X.leave (v := some (.int 1)) (hlocks := hlocks) (fun h => by rw [hr] at h; cases h)
  have hmeth' : T.vm.method? m = some meth := X.method'
  refine ⟨T.setFrames fs, ?_, .returned (some (.int 1)), hrun, hended, rfl, ⟨_, rfl⟩, hW, hframe⟩
  jvm_step X.here [X.here.top, hx, hb, hdg, hmeth', hr, ret, narrow_b1]
  (try refine ⟨rfl, ?_⟩); (try refine ⟨rfl, ?_⟩)
  first | (intro acts; rw [hret _ acts rfl rfl rfl]) | rw [hret _ _ rfl rfl rfl]
  exact Steps.refl _
set_option maxHeartbeats 8000000 in
set_option maxRecDepth 100000 in
theorem whole_start2 {p : Program} {e : Env} {s : State} {m : MethodId} {below : List Frame} {meth : Method} {c : Code} (l : Launch) (hflags : l.flags = flags0) {b L : Nat} {xs : Nat → Int32} (hL : L ≤ 2048) (C0 : lw_At p s m meth c b L xs) : W p l e room_1 s m #[Value.ref b] below meth c s.heap [] 0 0 (lw_Z2 below #[Value.ref b] s) (entryFrame m ([Value.ref b] : List Value).toArray 8) := by
  obtain ⟨hx, hb, hr, hml, hown, hts, hX, hbl, hlocks, hgv⟩ := id C0
  have hfl : l.stackTraces = false := by unfold Launch.stackTraces; rw [hflags]; decide
  obtain ⟨D, cI, cJ, cZ, cO, hK, cc9, hcc⟩ := kKs hts
  obtain ⟨z, mi, hZ⟩ := kZs hcc hts hgv
  have hC : kH p l s m #[Value.ref b] meth c cL_law RL wsL_law 8 (c.exceptionTable.toList.map fun h => (h.startPc, h.endPc, h.handlerPc, h.catchType)) D (kTy cI cJ cZ cO) z mi (fun q : Nat => s.heap.size ≤ q) := ⟨hx, hb, hml, hown, fun w h => hts w (wsL_law_in w h), hlocks, (table_eq _).symm, hK, hZ, fun q h => h, hfl⟩
  have hG : kG D (fun q : Nat => s.heap.size ≤ q) s [] s.heap [] := ⟨fun k q h => (by cases h), ⟨fun i j p q h => (by cases h), fun k q h => (by cases h)⟩, va_S.rf⟩
  have hbA : ¬ (fun q : Nat => s.heap.size ≤ q) b := Nat.not_le.mpr hbl
  have hl := lv_entry ([.ref b]) (n := 8) (Nat.le_of_ble_eq_true rfl)
  rw [lg_entry_eq]
  generalize (lg_sl ([.ref b]) ++ List.replicate (8 - (lg_sl ([.ref b])).length) Slot.unset).toArray = ls at hl ⊢
  have hl : lv_has ls 8 [(0, .ref b)] := hl
  refine kh_new (C := RX3) (T := TX3) (N := 7) (ci := 4) (fs := [.null, .null, .null, .null, .int 0, .int 0, .long 0]) hC hG inlX3 tyX3_ok (List.mem_of_getElem? (i := 0) rfl) (List.mem_of_getElem? (i := 1) rfl) (List.mem_of_getElem? (i := 2) rfl) rfl (fun j9 hj9 => match j9, hj9 with | 0, _ => rfl | 1, _ => rfl | 2, _ => rfl | 3, _ => rfl | 4, _ => rfl | 5, _ => rfl | 6, _ => rfl | n9 + 7, h9 => absurd h9 (by omega)) (Nat.le_of_ble_eq_true rfl) (Nat.le_of_ble_eq_true rfl) dL_law_0 (fun hs H hG => ?_)
  have hG : kG D (fun q : Nat => s.heap.size ≤ q) s ([(hs, .inr (4, [.null, .null, .null, .null, .int 0, .int 0, .long 0]))]) H _ := hG
  refine lv_dup hx hb dL_law_3 rfl ?_
  refine kh_callI (nn := 0) hC hG (K_X3_init l hfl D cI cJ cZ cO z mi hs) gL_law_X3_init (List.mem_of_getElem? (i := 7) rfl) (List.mem_of_getElem? (i := 8) rfl) (List.mem_of_getElem? (i := 2) rfl) rfl rfl (by decide +kernel) ⟨(Nat.le_of_ble_eq_true rfl), (Nat.le_of_ble_eq_true rfl)⟩ hl.1 rfl (Nat.le_of_ble_eq_true rfl) dL_law_4 ⟨(Nat.le_of_ble_eq_true rfl), (Nat.le_of_ble_eq_true rfl)⟩ (fun _ _ _ _ _ _ hp => hp.elim) (fun v9 u9 H locs hp hG => ?_)
  obtain ⟨rfl, hd, ho, hwn, hq, lr, li, hpr, hu9⟩ := hp
  rw [hu9] at hG
  have hG : kG D (fun q : Nat => s.heap.size ≤ q) s ((hd, .inr (1, [.ref ho, .ref hwn, .ref hq, .int (nI 0), .int 0, .int 0, .int 0, .int 0, .int 0, .int 0, .int (kb false), .int (kb false)])) :: (ho, .inl (cJ, 41, .inr (.inl (fun i9 => kRow ((fun _ _ => false) i9))))) :: (hwn, .inl (cJ, 41, .inr (.inl (fun i9 => kRow ((fun _ _ => false) i9))))) :: (hq, .inl (cI, 10, .inl (fun _ => 0))) :: (hs, .inr (4, [.ref hd, .ref lr, .ref li, .ref hpr, .int 10, .int 5, .long 0])) :: (hpr, .inl (cI, 3, .inl kP1)) :: [(lr, .inr (0, [.int 0, .ref z, .int (nI 0)])), (li, .inr (0, [.int 0, .ref z, .int (nI 0)]))]) H locs := hG
  refine W.widen (k := 20) (n := 500) (Nat.le_of_ble_eq_true rfl) (Nat.le_of_ble_eq_true rfl) ?_
  refine W.eq (g2 := F0 m 7 ls [.ref hs]) rfl ?_
  refine lv_astore_n (lv' := [(1, .ref hs), (0, .ref b)]) hx hb dL_law_7 rfl hl (by decide) rfl (fun ls hl => ?_)
  refine kh_new (C := RX4) (T := TX4) (N := 26) (ci := 5) (fs := [.null, .int 0, .int 0, .int 0, .int 0, .int 0, .int 0, .int 0, .int 0, .null, .int 0, .int 0, .null, .int 0, .null, .null, .null, .null, .null, .null, .null, .null, .int 0, .int 0, .long 0, .int 0]) hC hG inlX4 tyX4_ok (List.mem_of_getElem? (i := 3) rfl) (List.mem_of_getElem? (i := 4) rfl) (List.mem_of_getElem? (i := 5) rfl) rfl (fun j9 hj9 => match j9, hj9 with | 0, _ => rfl | 1, _ => rfl | 2, _ => rfl | 3, _ => rfl | 4, _ => rfl | 5, _ => rfl | 6, _ => rfl | 7, _ => rfl | 8, _ => rfl | 9, _ => rfl | 10, _ => rfl | 11, _ => rfl | 12, _ => rfl | 13, _ => rfl | 14, _ => rfl | 15, _ => rfl | 16, _ => rfl | 17, _ => rfl | 18, _ => rfl | 19, _ => rfl | 20, _ => rfl | 21, _ => rfl | 22, _ => rfl | 23, _ => rfl | 24, _ => rfl | 25, _ => rfl | n9 + 26, h9 => absurd h9 (by omega)) (Nat.le_of_ble_eq_true rfl) (Nat.le_of_ble_eq_true rfl) dL_law_8 (fun hm H hG => ?_)
  have hG : kG D (fun q : Nat => s.heap.size ≤ q) s ([(hm, .inr (5, [.null, .int 0, .int 0, .int 0, .int 0, .int 0, .int 0, .int 0, .int 0, .null, .int 0, .int 0, .null, .int 0, .null, .null, .null, .null, .null, .null, .null, .null, .int 0, .int 0, .long 0, .int 0]))] ++ ((hd, .inr (1, [.ref ho, .ref hwn, .ref hq, .int (nI 0), .int 0, .int 0, .int 0, .int 0, .int 0, .int 0, .int (kb false), .int (kb false)])) :: (ho, .inl (cJ, 41, .inr (.inl (fun i9 => kRow ((fun _ _ => false) i9))))) :: (hwn, .inl (cJ, 41, .inr (.inl (fun i9 => kRow ((fun _ _ => false) i9))))) :: (hq, .inl (cI, 10, .inl (fun _ => 0))) :: (hs, .inr (4, [.ref hd, .ref lr, .ref li, .ref hpr, .int 10, .int 5, .long 0])) :: (hpr, .inl (cI, 3, .inl kP1)) :: [(lr, .inr (0, [.int 0, .ref z, .int (nI 0)])), (li, .inr (0, [.int 0, .ref z, .int (nI 0)]))])) H _ := hG.swap
  refine lv_dup hx hb dL_law_11 rfl ?_
  refine kh_callI (nn := 0) hC hG ((K_X4_init l hfl D cI cJ cZ cO z mi hm).frame _) gL_law_X4_init (List.mem_of_getElem? (i := 48) rfl) (List.mem_of_getElem? (i := 49) rfl) (List.mem_of_getElem? (i := 5) rfl) rfl rfl (by decide +kernel) ⟨(Nat.le_of_ble_eq_true rfl), (Nat.le_of_ble_eq_true rfl)⟩ hl.1 rfl (Nat.le_of_ble_eq_true rfl) dL_law_12 ⟨(Nat.le_of_ble_eq_true rfl), (Nat.le_of_ble_eq_true rfl)⟩ (fun _ _ _ _ _ _ hp => (hp.elim fun _ h => h.1.elim)) (fun v9 u9 H locs hp hG => ?_)
  obtain ⟨u1, ⟨rfl, hM, hH, hA, hP, hPa, hR, hW, hMe, hV, hDo, hS, rfl⟩, rfl⟩ := hp
  refine W.widen (k := 50) (n := 2800) (Nat.le_of_ble_eq_true rfl) (Nat.le_of_ble_eq_true rfl) ?_
  refine W.eq (g2 := F0 m 15 ls [.ref hm]) rfl ?_
  refine lv_astore_n (lv' := [(2, .ref hm), (1, .ref hs), (0, .ref b)]) hx hb dL_law_15 rfl hl (by decide) rfl (fun ls hl => ?_)
  refine lv_iconst (v := 1) hx hb dL_law_16 (by decide) ?_
  refine kh_newJ hC hG (N := 1) (List.mem_of_getElem? (i := 6) rfl) (by decide) (by decide) (by decide) (Nat.le_of_ble_eq_true rfl) (Nat.le_of_ble_eq_true rfl) dL_law_17 (fun hO H hG => ?_)
  rw [List.append_assoc] at hG
  have hG : kG D (fun q : Nat => s.heap.size ≤ q) s ((((hd, .inr (1, [.ref ho, .ref hwn, .ref hq, .int (nI 0), .int 0, .int 0, .int 0, .int 0, .int 0, .int 0, .int (kb false), .int (kb false)])) :: (ho, .inl (cJ, 41, .inr (.inl (fun i9 => kRow ((fun _ _ => false) i9))))) :: (hwn, .inl (cJ, 41, .inr (.inl (fun i9 => kRow ((fun _ _ => false) i9))))) :: (hq, .inl (cI, 10, .inl (fun _ => 0))) :: (hs, .inr (4, [.ref hd, .ref lr, .ref li, .ref hpr, .int 10, .int 5, .long 0])) :: (hpr, .inl (cI, 3, .inl kP1)) :: [(lr, .inr (0, [.int 0, .ref z, .int (nI 0)])), (li, .inr (0, [.int 0, .ref z, .int (nI 0)]))]) ++ [(hO, .inl (cJ, 1, .inr (.inl (fun _ => 0))))]) ++ ((hm, .inr (5, [.ref hM, .int (kb false), .int (kb false), .int 0, .int 0, .int 0, .int 0, .int 0, .int 0, .ref hH, .int (nI 0), .int 10, .ref hA, .int (nI 0), .ref hP, .ref hPa, .ref hR, .ref hW, .ref hMe, .ref hV, .ref hDo, .ref hS, .int (nI 0), .int 5, .long 0, .int 0])) :: (hM, .inl (cZ, 1681, .inl (fun j9 => kb ((fun _ => false) j9)))) :: (hH, .inl (cI, 10, .inl (fun _ => 0))) :: (hA, .inl (cI, 36, .inl (fun _ => 0))) :: (hP, .inl (cI, 3, .inl kP1)) :: (hPa, .inl (cI, 30, .inl (fun _ => 0))) :: (hR, .inl (cI, 30, .inl (fun _ => 0))) :: (hW, .inl (cI, 30, .inl (fun _ => 0))) :: (hMe, .inl (cI, 30, .inl (fun _ => 0))) :: (hV, .inl (cI, 30, .inl (fun _ => 0))) :: (hDo, .inl (cI, 30, .inl (fun _ => 0))) :: (hS, .inl (cJ, 30, .inr (.inl (fun _ => 0)))) :: [])) H _ := hG.swap
  refine W.widen (k := 100 + 10 * 0) (n := 3000 + 150 * 0) (Nat.le_of_ble_eq_true rfl) (Nat.le_of_ble_eq_true rfl) ?_
  refine lv_astore_n (lv' := [(3, .ref hO), (2, .ref hm), (1, .ref hs), (0, .ref b)]) hx hb dL_law_19 rfl hl (by decide) rfl (fun ls hl => ?_)
  refine lv_iconst (v := 0) hx hb dL_law_20 (by decide) ?_
  refine lv_istore (lv' := [(4, .int 0), (3, .ref hO), (2, .ref hm), (1, .ref hs), (0, .ref b)]) hx hb dL_law_21 hl (by decide) rfl (fun ls hl => ?_)
  refine C_loop l hfl D cI cJ cZ cO z mi hC hX hbl hbA hL ?_ 513 0 rfl (fun _ => 0) _ _ _ _ _ (kJ0 cI cJ cZ cO z hs hm hd ho hwn hq lr li hpr hM hH hA hP hPa hR hW hMe hV hDo hS) hG (lv_sub hl [4, 3, 2, 1, 0] rfl)
  intro H locs cells slots ls h1 h2 h3
  refine lv_iconst (v := 1) hx hb dL_law_1416 (by decide) ?_
  exact va_forget (fun q hq => h3.2.2 q hq) (W.widen h1 h2 (lw_ret2 hx hb hr hlocks dL_law_1417))

set_option maxHeartbeats 4000000 in
theorem lw_walk (l : Launch) (hflags : l.flags = flags0) (b : Addr) (xs : List Int32) : MetFree l x (headSpec (Jvm.Cond.code x code maxLocals ret :: tables_1) room_1) (lw_P b xs) (fun _ _ _ _ _ => True) lw_Q2 := by
  refine MetFree.of_bodyS (code := code) (maxLocals := maxLocals) (ret := ret) (by decide) ?_ ?_
  · intro args s m h hn
    obtain ⟨meth, c, h1, h2, h3, h4, h5, h6, -, -⟩ := Cond.code_spec hn (atoms_spec (ws := Jvm.Cond.code x code maxLocals ret :: tables_1) h _ List.mem_cons_self)
    exact ⟨meth, c, h1, h2, h3, h4, h5, h6⟩
  · intro p e s m args below meth c s₁ B hml0 hP _
    obtain ⟨rfl, hx, hbd, hgv⟩ := hP
    obtain ⟨scr, harrAt, hlist, hof, hsmall⟩ := hx
    obtain ⟨hcb, hkn, -, -⟩ := State.arrayAt?_spec harrAt
    have hown : s.vm.findClass R_law = some m.cls := findClass_of_methodNamed B.named
    have hts0 : ∀ c ∈ (Jvm.Cond.code x code maxLocals ret :: tables_1), c.before #[Value.ref b] s = true := atoms_spec (ws := Jvm.Cond.code x code maxLocals ret :: tables_1) B.pre
    have hts : ∀ w ∈ lw_tbl, w.before #[Value.ref b] s = true := k2_hts_sels lw_privs (fun w hw => hts0 w (List.mem_cons_of_mem _ hw)) lw_privs_ok
    have hml : c.maxLocals = 8 := B.maxLocals_eq (hts0 _ List.mem_cons_self)
    have X₀ : Stand p l e room_1 s m #[Value.ref b] below meth c s₁ [] 0 0 := Stand.of_body B
    have hh0 : s₁.heap = s.heap := by rw [B.state]; rfl
    have hsz : scr.slots.size = xs.length := by rw [← Array.length_toList, hlist, List.length_map]
    have hval : ∀ j : Nat, j < xs.length → scr.slots[j]? = some (.int (xs.getD j 0)) := fun j hj => by
      rw [← Array.getElem?_toList, hlist]
      simp [hj]
    have hbl : b < s.heap.size := (Array.getElem?_eq_some_iff.mp hcb).1
    have hX : va_X b xs.length (fun j => xs.getD j 0) s s.heap := ⟨scr, hcb, hof, hkn, hsz, hval⟩
    have K : W p l e room_1 s m #[Value.ref b] below meth c s₁.heap [] 0 0 (lw_Z2 below #[Value.ref b] s) (entryFrame m ([Value.ref b] : List Value).toArray 8) := by
      rw [hh0]
      exact whole_start2 l hflags hbd ⟨B.exec, B.bytes, B.returns, hml, hown, hts, hX, hbl, B.notSynchronized, hgv⟩
    obtain ⟨t, a1, o, b1, b2, b3⟩ := K s₁ rfl X₀
    exact ⟨t, o, a1, b1, b2, b3⟩
theorem lw_pre_spec {args : Array Value} {s : State} (h : (Jvm.Cond.and given_1 narrow_1).before args s = true) (hr : rest_1_c.before args s = true) : ∃ (b : Addr) (xs : List Int32), lw_P b xs args s := by
  have hs := flat_of_before _ h
  have hq := flat_of_before _ hr
  have hc : (Cond.count 1).before args s = true := hs _ (by decide +kernel)
  have harr : (Cond.arrayOf (.arg 0) .int).before args s = true := hs _ (by decide +kernel)
  have hle : (Cond.le (.length (.arg 0)) (.int 2048)).before args s = true := hs _ (by decide +kernel)
  have hlen : (Cond.isInt (.length (.arg 0))).before args s = true := hq _ (by decide +kernel)
  have hall : (Cond.all (.arg 0) (.isInt (.elem (.arg 0) (.index 0)))).before args s = true := hq _ (by decide +kernel)
  obtain ⟨b, xs, hb, hx⟩ := State.ints_of_pre rfl harr hlen hall
  have hsm : xs.length < 2 ^ 31 := hx.choose_spec.2.2.2
  have hev : (Term.length (.arg 0)).eval args s none [] s = some (.int xs.length.toInt32) := hx.length_eval hb
  have hv := Cond.le_ints hev (show (Term.int 2048).eval args s none [] s = some (.int 2048) from rfl)
  have hd : xs.length.toInt32 ≤ 2048 := by
    simpa [Cond.before, Cond.holds, hv] using hle
  have hN : xs.length ≤ 2048 := (Int32.ofNat_le_ofNat hsm (by decide)).mp (show Int32.ofNat xs.length ≤ Int32.ofNat 2048 from hd)
  exact ⟨b, xs, Cond.one_arg hc (show args[0]? = some (.ref b) from hb), hx, hN, h⟩
theorem lw_comes (l : Launch) (hflags : l.flags = flags0) : Comes l x (Jvm.Cond.code x code maxLocals ret :: tables_1) room_1 (fun tb e args s => Calls_1 tb e args s ∧ rest_1 tb e args s ∧ Pre_1 tb e args s)
    (fun _ _ args s o t => lw_Q2 args s o t) := by
  intro p e ha hc hk s m args below hf hfit hheap happ hpre
  obtain ⟨b, xs, hP⟩ := lw_pre_spec hpre.2.2 hpre.2.1
  obtain ⟨k, o, h1, h2, h3, hQ⟩ := lw_walk l hflags b xs p e ha hc hk s m args below hf ((Spec.applies_iff_loose hf).mp happ).1 hP trivial
  exact ⟨k, o, h1, h2, h3, hQ⟩
theorem lw_frame {s t : State} {o : Outcome} {args : Array Value} {cA sA : Nat} (h : Framed s o t [] 10000 100000) (h1 : 10000 ≤ cA) (h2 : 100000 ≤ sA) :
    Framed s o t (fieldLocs frame_1_writes args s ++ arrayLocs frame_1_arrays args s ++ staticLocs frame_1_statics s) cA sA := by
  obtain ⟨a, b, d⟩ := h
  exact ⟨a, b, d.mono h1 h2⟩
theorem lw_limb (L : Cond) {cA sA : Nat} (h1 : 10000 ≤ cA) (h2 : 100000 ≤ sA) (hL : ∀ (args : Array Value) (s t : State), L.after args s (.returned (some (.int 1))) t = true) :
    ArmFor flags0 classFile x code maxLocals ret World_1 tables_1 room_1 Calls_1 rest_1 Pre_1
      (fun tb e a s o t => postC L tb e a s o t ∧ Framed s o t (fieldLocs frame_1_writes a s ++ arrayLocs frame_1_arrays a s ++ staticLocs frame_1_statics s) cA sA) := by
  intro l hflags _ _ p e ha hc hk s m args below hf hfit hheap happ hpre
  obtain ⟨k, o, g1, g2, g3, rfl, hF⟩ := lw_comes l hflags p e ha hc hk s m args below hf hfit hheap happ hpre
  exact ⟨k, _, g1, g2, g3, hL args s _, lw_frame hF h1 h2⟩
theorem i_vc : Claimed_1_1 ∧ Claimed_1_2 := ⟨lw_limb limb_1_1 (Nat.le_of_ble_eq_true rfl) (Nat.le_of_ble_eq_true rfl) (fun args s t => by simp [limb_1_1, Cond.after, Cond.holds, Cond.value]), lw_limb limb_1_2 (Nat.le_of_ble_eq_true rfl) (Nat.le_of_ble_eq_true rfl) (fun args s t => Cond.after_iff.mpr (by
  first | (rw [show limb_1_2 = Cond.eq .result (.int 1) from rfl, Cond.eq_ints (x := 1) (y := 1) rfl rfl]; simp; done) | (simp [limb_1_2, Cond.value, Term.eval]; done)))⟩
