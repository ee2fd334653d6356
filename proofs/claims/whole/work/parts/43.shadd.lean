/-! ===== a new item, a new rate: the sheet's cells afterwards ===== -/
theorem kLP_ne {ws : va_W} {cO : ClassId} {z la kl ke n ed len : Nat} {mc : Int32} {g ad : Nat → Option Nat} (h : kLP ws cO z la kl ke n ed len mc g ad) {j a ci : Nat} {fs : List Value} (hj : ws[j]? = some (a, .inr (ci, fs))) (hc : ci ≠ 0) : j ≠ kl ∧ j ≠ ke := by
  have h1 : j ≠ kl := fun e => by
    rw [e, h.1] at hj
    cases hj
    exact hc rfl
  refine ⟨h1, fun e => ?_⟩
  rcases h.2 with ⟨-, -, h2⟩ | ⟨h2, -⟩
  · exact h1 (e.trans h2)
  · rw [e, h2] at hj
    cases hj
theorem kLP_neI {ws : va_W} {cO cI : ClassId} {z la kl ke n ed len : Nat} {mc : Int32} {g ad : Nat → Option Nat} (h : kLP ws cO z la kl ke n ed len mc g ad) {j a n9 : Nat} {f : Nat → Int32} (hj : ws[j]? = some (a, .inl (cI, n9, .inl f))) : j ≠ kl ∧ j ≠ ke := by
  have h1 : j ≠ kl := fun e => by
    rw [e, h.1] at hj
    cases hj
  refine ⟨h1, fun e => ?_⟩
  rcases h.2 with ⟨-, -, h2⟩ | ⟨h2, -⟩
  · exact h1 (e.trans h2)
  · rw [e, h2] at hj
    cases hj
theorem kLP_len {ws : va_W} {cO : ClassId} {z la kl ke n ed len : Nat} {mc : Int32} {g ad : Nat → Option Nat} (h : kLP ws cO z la kl ke n ed len mc g ad) : kl < ws.length ∧ ke < ws.length := by
  refine ⟨k_len h.1, ?_⟩
  rcases h.2 with ⟨-, -, h2⟩ | ⟨h2, -⟩
  · rw [h2]; exact k_len h.1
  · exact k_len h2
theorem k_omap {f : Nat → Nat} {n q : Nat} {o : Option Nat} (h : ∀ k, o = some k → k < n) : o.map (va_up f n q) = o.map f := by
  cases o with
  | none => rfl
  | some k =>
    have := h k rfl
    show some (va_up f n q k) = some (f k)
    rw [kup_ne _ _ (by omega)]
/-- the first six cells stay -/
def kFrm (ws u : va_W) : Prop := ws.length ≤ u.length ∧ ∀ j, j < 6 → u[j]? = ws[j]?
/-- the amounts of a new rate -/
def fA3 (fA : Nat → Int32) (n : Nat) (a b c : Int32) : Nat → Int32 := va_up (va_up (va_up fA (3 * n) a) (3 * n + 1) b) (3 * n + 2) c
theorem fA3_old {fA : Nat → Int32} {n j : Nat} {a b c : Int32} (h : j < 3 * n) : fA3 fA n a b c j = fA j := by
  unfold fA3
  rw [kup_ne _ _ (by omega), kup_ne _ _ (by omega), kup_ne _ _ (by omega)]
theorem fA3_0 {fA : Nat → Int32} {n : Nat} {a b c : Int32} : fA3 fA n a b c (3 * n) = a := by
  unfold fA3
  rw [kup_ne _ _ (by omega), kup_ne _ _ (by omega), kup_eq]
theorem fA3_1 {fA : Nat → Int32} {n : Nat} {a b c : Int32} : fA3 fA n a b c (3 * n + 1) = b := by
  unfold fA3
  rw [kup_ne _ _ (by omega), kup_eq]
theorem fA3_2 {fA : Nat → Int32} {n : Nat} {a b c : Int32} : fA3 fA n a b c (3 * n + 2) = c := by
  unfold fA3
  rw [kup_eq]

theorem kSh_addI {cI cO : ClassId} {z : Nat} {ws : va_W} {ks : Nat} {hs : Nat} {hd : Nat} {lr : Nat} {li : Nat} {hpr : Nat} {kp : Nat} {lim : Int32} {ret : Int32} {clm : Int64} {fP : Nat → Int32} {ni : Nat} {ia : Nat → Nat} {pi : Nat → Nat} {par : Nat → Option Nat} {rt : Nat → Option Nat} {ra : Nat → Nat} {wa : Nat → Int32} {me : Nat → Int32} {va : Nat → Int32} {dn : Nat → Int32} {nr : Nat} {pr : Nat → Nat} {fA : Nat → Int32} {kli : Nat} {kei : Nat} {edi : Nat} {leni : Nat} {mci : Int32} {gi : Nat → Option Nat} {klr : Nat} {ker : Nat} {edr : Nat} {lenr : Nat} {mcr : Int32} {gr : Nat → Option Nat} (hSh : kSh cI cO z ws ks hs hd lr li hpr kp lim ret clm fP ni ia pi par rt ra wa me va dn nr pr fA kli kei edi leni mci gi klr ker edr lenr mcr gr) (hni : ni ≤ 29) {q : Nat} {o r : Option Nat} {w9 : Int32} (ho : ∀ k, o = some k → k < ni) (hr : ∀ k, r = some k → k < nr) (hq : ∀ j, j < ni → ia j ≠ q) {u : va_W} (h : kAdd cO (ws ++ [(q, .inr (2, [va_rf (o.map ia), va_rf (r.map ra), .int w9, .int 0, .int 0, .int 0]))]) kli kei li (mci + 1) ni gi q u) : ∃ (ke' ed' len' : Nat) (g' : Nat → Option Nat), kSh cI cO z u ks hs hd lr li hpr kp lim ret clm fP (ni + 1) (va_up ia ni q) (va_up pi ni ws.length) (va_up par ni o) (va_up rt ni r) ra (va_up wa ni w9) (va_up me ni 0) (va_up va ni 0) (va_up dn ni 0) nr pr fA kli ke' ed' len' (mci + 1) g' klr ker edr lenr mcr gr ∧ kFrm ws u := by
  obtain ⟨ke', ed', len', g', h1, h2, h3, h4, h5, h6, h7, h8, h9⟩ := h
  have hlen : (ws ++ [((q, .inr (2, [va_rf (o.map ia), va_rf (r.map ra), .int w9, .int 0, .int 0, .int 0])) : Nat × va_E)]).length = ws.length + 1 := by rw [List.length_append]; rfl
  rw [hlen] at h7 h8 h9
  obtain ⟨l1, l2⟩ := kLP_len hSh.2.2.2.2.2.2.1
  have fr : ∀ (j : Nat) (c : Nat × va_E), ws[j]? = some c → j ≠ kli → j ≠ kei → u[j]? = some c := fun j c hj n1 n2 => by
    rw [h9 j (by have := k_len hj; omega) n1 n2]
    exact k_fst hj
  have fr2 : ∀ (j a ci : Nat) (fs : List Value), ws[j]? = some (a, .inr (ci, fs)) → ci ≠ 0 → u[j]? = some (a, .inr (ci, fs)) := fun j a ci fs hj hc => fr j _ hj (kLP_ne hSh.2.2.2.2.2.2.1 hj hc).1 (kLP_ne hSh.2.2.2.2.2.2.1 hj hc).2
  have hnew : u[ws.length]? = some (q, .inr (2, [va_rf (o.map ia), va_rf (r.map ra), .int w9, .int 0, .int 0, .int 0])) := by
    rw [h9 ws.length (by omega) (by omega) (by omega)]
    exact k_last _ _
  have hb := hSh.2.2.1
  have hn6 := hSh.2.2.2.2.2.2.2.2.2.1
  have hIP := hSh.2.2.2.1
  have hRP := hSh.2.2.2.2.1
  have hNE := hSh.2.2.2.2.2.2.2.2.1
  refine ⟨ke', ed', len', g', ⟨fr2 _ _ _ _ hSh.1 (by decide), fr _ _ hSh.2.1 (kLP_neI hSh.2.2.2.2.2.2.1 hSh.2.1).1 (kLP_neI hSh.2.2.2.2.2.2.1 hSh.2.1).2, ⟨by omega, hb.2⟩, ⟨?_, ?_, ?_⟩, ⟨fun j hj => fr2 _ _ _ _ (hRP.1 j hj) (by decide), hRP.2⟩, ?_, ⟨h1, Or.inr ⟨h2, h3, h4, by omega, ?_⟩⟩, ⟨fr _ _ hSh.2.2.2.2.2.2.2.1.1 (fun e => hNE.1 e.symm) (fun e => hNE.2.2.1 e.symm), hSh.2.2.2.2.2.2.2.1.2.imp (fun e => e) (fun e => ⟨fr _ _ e.1 (fun e => hNE.2.1 e.symm) (fun e => hNE.2.2.2 e.symm), e.2⟩)⟩, ⟨hNE.1, hNE.2.1, ?_, ?_⟩, ⟨hn6.1, ?_, hn6.2.2.1, hn6.2.2.2.1, by omega⟩, ?_, hSh.2.2.2.2.2.2.2.2.2.2.2⟩, ⟨by omega, fun j hj => ?_⟩⟩
  · intro j hj
    by_cases e : j = ni
    · subst e
      rw [kup_eq, kup_eq, kup_eq, kup_eq, kup_eq, kup_eq, kup_eq, kup_eq, k_omap ho]
      exact hnew
    · have hj' : j < ni := by omega
      rw [kup_ne _ _ e, kup_ne _ _ e, kup_ne _ _ e, kup_ne _ _ e, kup_ne _ _ e, kup_ne _ _ e, kup_ne _ _ e, kup_ne _ _ e, k_omap (fun k hk => by have := hIP.2.1 j k hj' hk; omega)]
      exact fr2 _ _ _ _ (hIP.1 j hj') (by decide)
  · intro j k hj hk
    by_cases e : j = ni
    · subst e
      rw [kup_eq] at hk
      exact ho k hk
    · rw [kup_ne _ _ e] at hk
      exact hIP.2.1 j k (by omega) hk
  · intro i j hi hj e
    by_cases e1 : i = ni
    · by_cases e2 : j = ni
      · omega
      · subst e1
        rw [kup_eq, kup_ne _ _ e2] at e
        exact absurd e.symm (hq j (by omega))
    · by_cases e2 : j = ni
      · subst e2
        rw [kup_eq, kup_ne _ _ e1] at e
        exact absurd e (hq i (by omega))
      · rw [kup_ne _ _ e1, kup_ne _ _ e2] at e
        exact hIP.2.2 i j (by omega) (by omega) e
  · intro j k hj hk
    by_cases e : j = ni
    · subst e
      rw [kup_eq] at hk
      exact hr k hk
    · rw [kup_ne _ _ e] at hk
      exact hSh.2.2.2.2.2.1 j k (by omega) hk
  · intro i hi
    by_cases e : i = ni
    · subst e
      show _ = some (va_up ia i q i)
      rw [kup_eq]
      exact h6
    · show _ = some (va_up ia ni q i)
      rw [h5 i (by omega), kup_ne _ _ e]
      exact (kLP.arr hSh.2.2.2.2.2.2.1 (show i < ni by omega)).2.2.2 i (by omega)
  · have h8 := h8
    have l3 := kLP_len hSh.2.2.2.2.2.2.2.1
    rcases h8 with rfl | h8
    · exact hNE.2.2.1
    · omega
  · have l3 := kLP_len hSh.2.2.2.2.2.2.2.1
    rcases h8 with rfl | h8
    · exact hNE.2.2.2
    · omega
  · rcases h8 with rfl | h8
    · exact hn6.2.1
    · omega
  · intro j hj
    by_cases e : j = ni
    · subst e
      rw [kup_eq]
      exact hn6.2.2.2.2
    · rw [kup_ne _ _ e]
      exact hSh.2.2.2.2.2.2.2.2.2.2.1 j (by omega)
  · rw [h9 j (by omega) (by omega) (by omega), List.getElem?_append_left (by omega)]

theorem kSh_addR {cI cO : ClassId} {z : Nat} {ws : va_W} {ks : Nat} {hs : Nat} {hd : Nat} {lr : Nat} {li : Nat} {hpr : Nat} {kp : Nat} {lim : Int32} {ret : Int32} {clm : Int64} {fP : Nat → Int32} {ni : Nat} {ia : Nat → Nat} {pi : Nat → Nat} {par : Nat → Option Nat} {rt : Nat → Option Nat} {ra : Nat → Nat} {wa : Nat → Int32} {me : Nat → Int32} {va : Nat → Int32} {dn : Nat → Int32} {nr : Nat} {pr : Nat → Nat} {fA : Nat → Int32} {kli : Nat} {kei : Nat} {edi : Nat} {leni : Nat} {mci : Int32} {gi : Nat → Option Nat} {klr : Nat} {ker : Nat} {edr : Nat} {lenr : Nat} {mcr : Int32} {gr : Nat → Option Nat} (hSh : kSh cI cO z ws ks hs hd lr li hpr kp lim ret clm fP ni ia pi par rt ra wa me va dn nr pr fA kli kei edi leni mci gi klr ker edr lenr mcr gr) (hnr : nr ≤ 11) {q : Nat} {u1 u2 u3 : Int32} (hq : ∀ j, j < nr → ra j ≠ q) {u : va_W} (h : kAdd cO (ws ++ [(q, .inr (3, [.int u1, .int u2, .int u3]))]) klr ker lr (mcr + 1) nr gr q u) : ∃ (ke' ed' len' : Nat) (g' : Nat → Option Nat), kSh cI cO z u ks hs hd lr li hpr kp lim ret clm fP ni ia pi par rt (va_up ra nr q) wa me va dn (nr + 1) (va_up pr nr ws.length) (fA3 fA nr u1 u2 u3) kli kei edi leni mci gi klr ke' ed' len' (mcr + 1) g' ∧ kFrm ws u := by
  obtain ⟨ke', ed', len', g', h1, h2, h3, h4, h5, h6, h7, h8, h9⟩ := h
  have hlen : (ws ++ [((q, .inr (3, [.int u1, .int u2, .int u3])) : Nat × va_E)]).length = ws.length + 1 := by rw [List.length_append]; rfl
  rw [hlen] at h7 h8 h9
  obtain ⟨l1, l2⟩ := kLP_len hSh.2.2.2.2.2.2.2.1
  have fr : ∀ (j : Nat) (c : Nat × va_E), ws[j]? = some c → j ≠ klr → j ≠ ker → u[j]? = some c := fun j c hj n1 n2 => by
    rw [h9 j (by have := k_len hj; omega) n1 n2]
    exact k_fst hj
  have fr2 : ∀ (j a ci : Nat) (fs : List Value), ws[j]? = some (a, .inr (ci, fs)) → ci ≠ 0 → u[j]? = some (a, .inr (ci, fs)) := fun j a ci fs hj hc => fr j _ hj (kLP_ne hSh.2.2.2.2.2.2.2.1 hj hc).1 (kLP_ne hSh.2.2.2.2.2.2.2.1 hj hc).2
  have hnew : u[ws.length]? = some (q, .inr (3, [.int u1, .int u2, .int u3])) := by
    rw [h9 ws.length (by omega) (by omega) (by omega)]
    exact k_last _ _
  have hb := hSh.2.2.1
  have hn6 := hSh.2.2.2.2.2.2.2.2.2.1
  have hIP := hSh.2.2.2.1
  have hRP := hSh.2.2.2.2.1
  have hNE := hSh.2.2.2.2.2.2.2.2.1
  have hRT := hSh.2.2.2.2.2.1
  refine ⟨ke', ed', len', g', ⟨fr2 _ _ _ _ hSh.1 (by decide), fr _ _ hSh.2.1 (kLP_neI hSh.2.2.2.2.2.2.2.1 hSh.2.1).1 (kLP_neI hSh.2.2.2.2.2.2.2.1 hSh.2.1).2, ⟨hb.1, by omega⟩, ⟨fun j hj => ?_, hIP.2⟩, ⟨?_, ?_⟩, fun j k hj hk => Nat.lt_succ_of_lt (hRT j k hj hk), ⟨fr _ _ hSh.2.2.2.2.2.2.1.1 hNE.1 hNE.2.1, hSh.2.2.2.2.2.2.1.2.imp (fun e => e) (fun e => ⟨fr _ _ e.1 hNE.2.2.1 hNE.2.2.2, e.2⟩)⟩, ⟨h1, Or.inr ⟨h2, h3, h4, by omega, ?_⟩⟩, ⟨hNE.1, ?_, hNE.2.2.1, ?_⟩, ⟨hn6.1, hn6.2.1, hn6.2.2.1, ?_, by omega⟩, hSh.2.2.2.2.2.2.2.2.2.2.1, ?_⟩, ⟨by omega, fun j hj => ?_⟩⟩
  · rw [k_omap (fun k hk => hRT j k hj hk)]
    exact fr2 _ _ _ _ (hIP.1 j hj) (by decide)
  · intro j hj
    by_cases e : j = nr
    · subst e
      rw [kup_eq, kup_eq, fA3_0, fA3_1, fA3_2]
      exact hnew
    · have hj' : j < nr := by omega
      rw [kup_ne _ _ e, kup_ne _ _ e, fA3_old (by omega), fA3_old (by omega), fA3_old (by omega)]
      exact fr2 _ _ _ _ (hRP.1 j hj') (by decide)
  · intro i j hi hj e
    by_cases e1 : i = nr
    · by_cases e2 : j = nr
      · omega
      · subst e1
        rw [kup_eq, kup_ne _ _ e2] at e
        exact absurd e.symm (hq j (by omega))
    · by_cases e2 : j = nr
      · subst e2
        rw [kup_eq, kup_ne _ _ e1] at e
        exact absurd e (hq i (by omega))
      · rw [kup_ne _ _ e1, kup_ne _ _ e2] at e
        exact hRP.2 i j (by omega) (by omega) e
  · intro i hi
    by_cases e : i = nr
    · subst e
      show _ = some (va_up ra i q i)
      rw [kup_eq]
      exact h6
    · show _ = some (va_up ra nr q i)
      rw [h5 i (by omega), kup_ne _ _ e]
      exact (kLP.arr hSh.2.2.2.2.2.2.2.1 (show i < nr by omega)).2.2.2 i (by omega)
  · have l3 := kLP_len hSh.2.2.2.2.2.2.1
    rcases h8 with rfl | h8
    · exact hNE.2.1
    · omega
  · have l3 := kLP_len hSh.2.2.2.2.2.2.1
    rcases h8 with rfl | h8
    · exact hNE.2.2.2
    · omega
  · rcases h8 with rfl | h8
    · exact hn6.2.2.2.1
    · omega
  · intro j hj
    by_cases e : j = nr
    · subst e
      rw [kup_eq]
      exact hn6.2.2.2.2
    · rw [kup_ne _ _ e]
      exact hSh.2.2.2.2.2.2.2.2.2.2.2 j (by omega)
  · rw [h9 j (by omega) (by omega) (by omega), List.getElem?_append_left (by omega)]

