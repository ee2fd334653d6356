/-! ===== the class's conditions are the reference's; what the calls do to the joint state ===== -/
theorem kE12 : ¬ kIAE = kISE := by decide
theorem kE13 : ¬ kIAE = kIOB := by decide
theorem kE21 : ¬ kISE = kIAE := by decide
theorem kE23 : ¬ kISE = kIOB := by decide
theorem kE31 : ¬ kIOB = kIAE := by decide
theorem kE32 : ¬ kIOB = kISE := by decide
theorem k_nle2 (a b : Int32) : decide (b ≤ a) = !decide (a < b) := by
  by_cases h : a < b
  · rw [decide_eq_true h, decide_eq_false (Int32.not_le.mpr h)]; rfl
  · rw [decide_eq_false h, decide_eq_true (Int32.not_lt.mp h)]; rfl
theorem kOpn {bg cl cl2 : Bool} {oc : Nat} (h : cl = (bg && cl2)) : (bg && (cl2 && !decide (10 ≤ nI oc))) = (cl && decide (nI oc < 10)) := by
  rw [k_nle2, Bool.not_not, h, Bool.and_assoc]
theorem kWl {bg cl cl2 : Bool} (h : cl = (bg && cl2)) : (bg && !cl2) = (bg && !cl) := by
  subst h; cases bg <;> cases cl2 <;> rfl
theorem kNum_ex {i : Int32} {n : Nat} (hn : n < 2 ^ 31) (h : kNum i n = true) : ∃ j, j < n ∧ i = nI j := by
  cases h1 : decide (i < 0) with
  | true => unfold kNum at h; rw [h1] at h; cases h
  | false =>
    cases h2 : decide (i < nI n) with
    | true => exact kNum_at h1 h2 hn
    | false => unfold kNum at h; rw [h1, h2] at h; cases h
theorem kPk_eq {q : Int32} {n : Nat} (hn : n < 2 ^ 31) : (decide (q = (-1)) || kIn q 0 (nI n - 1)) = kPk q n := by
  unfold kPk
  rw [kNum_eq hn]
  cases decide (q = (-1)) <;> rfl
theorem kPk2_eq {q r : Int32} {n n2 : Nat} (hn : n < 2 ^ 31) (hn2 : n2 < 2 ^ 31) : (bif decide (q = (-1)) then kIn r 0 (nI n2 - 1) else kIn q 0 (nI n - 1) && kIn r 0 (nI n2 - 1)) = (kPk q n && kNum r n2) := by
  unfold kPk
  rw [kNum_eq hn, kNum_eq hn2]
  cases decide (q = (-1)) <;> rfl
section KLK
variable {rt : Nat → Option Nat} {ni nr : Nat}
theorem kHd_eq {q : Int32} (hn : ni ≤ 30) (hr : ∀ j q, j < ni → rt j = some q → q < nr) (hnr : nr ≤ 12) (h : kNum q ni = true) : decide ((fun j => kEn (rt j)) q.toNatClampNeg = (-1)) = !kLe rt q := by
  obtain ⟨j, hj, rfl⟩ := kNum_ex (by omega) h
  show decide (kEn (rt (nI j).toNatClampNeg) = -1) = !(rt (nI j).toNatClampNeg).isSome
  rw [nI_clamp (by omega)]
  exact kEn_none (fun q hq => by have := hr j q hj hq; omega)
theorem kLf_eq {q : Int32} (hn : ni ≤ 30) (hr : ∀ j q, j < ni → rt j = some q → q < nr) (hnr : nr ≤ 12) (h : kPk q ni = true) : kLf (fun j => kEn (rt j)) q = !kNq rt q := by
  unfold kLf kNq
  unfold kPk at h
  cases h1 : decide (q = (-1)) with
  | true => rfl
  | false =>
    rw [h1] at h
    rw [kHd_eq hn hr hnr h]
    cases kLe rt q <;> rfl
end KLK
theorem kVr_eq (va : Nat → Int32) (q dq : Int32) : kIn (va q.toNatClampNeg + dq) (-20000) 20000 = kVr va q dq := by
  unfold kIn kVr
  rw [k_nle2 20000]
  cases decide (va q.toNatClampNeg + dq < (-20000)) <;> rfl
theorem kPt_en {q : Int32} {n : Nat} {o : Option Nat} (h : kPt q n o) : q = kEn o := by
  rcases h with ⟨rfl, rfl⟩ | ⟨j, -, rfl, rfl⟩ <;> rfl
theorem kEnU {f : Nat → Option Nat} {n : Nat} {q : Int32} {o : Option Nat} (h : q = kEn o) : upd (fun j => kEn (f j)) n q = fun j => kEn (va_up f n o j) := by
  funext j
  show (if j = n then q else kEn (f j)) = kEn (if j = n then o else f j)
  by_cases e : j = n
  · rw [if_pos e, if_pos e, h]
  · rw [if_neg e, if_neg e]
theorem kup_id {α : Type} {f : Nat → α} {n : Nat} {v : α} (h : f n = v) : va_up f n v = f := by
  funext j
  unfold va_up
  by_cases e : j = n
  · rw [if_pos e, e, h]
  · rw [if_neg e]
theorem kup_at {α : Type} (f : Nat → α) (n : Nat) (v : α) (j : Nat) : va_up f n v j = if j = n then v else f j := rfl
-- the drawing
section KDR
variable {k : Nat} {BO BW : Nat → Nat → Bool} {fQ : Nat → Int32} {oc : Nat} {bx by9 x y ot tw : Int32} {bg cl : Bool} {mk : Nat → Bool} {fH : Nat → Int32} {cl2 : Bool} {ot2 : Int32}
theorem kDw_begin (h : kDw k BO BW fQ oc bx by9 x y ot tw bg cl mk fH cl2 ot2) {xa ya : Int32} (hp : kPl xa ya = true) : kDw (k + 1) (kSt2 (fun _ _ => false) xa.toNatClampNeg ya.toNatClampNeg) (fun _ _ => false) (fun _ => 0) 0 xa ya xa ya 0 0 true false (kBeg mk xa ya) fH false 0 := by
  have e0 : (0 : Int32).toInt = 0 := rfl
  obtain ⟨r1, r2⟩ := kPl_iff.mp hp
  have c1 := t32_cl r1.1
  have c2 := t32_cl r2.1
  refine ⟨rfl, fun _ => rfl, hp, hp, by omega, fun j hj => by omega, fun j _ => rfl, fun j => by show 0 ≤ (0 : Int32).toInt ∧ (0 : Int32).toInt ≤ 1600; omega, fun a b ha hb => ?_, fun _ => kPa_begin hp⟩
  unfold kBeg
  rw [kSt2_at]
  by_cases e : b = ya.toNatClampNeg ∧ a = xa.toNatClampNeg
  · rw [if_pos e, e.1, e.2, kup_eq]
  · rw [if_neg e, kup_ne _ _ (by omega)]
    show (!decide (41 * a + b < 1681) && mk (41 * a + b)) = false
    rw [decide_eq_true (by omega)]; rfl
theorem kDw_take (h : kDw k BO BW fQ oc bx by9 x y ot tw bg cl mk fH cl2 ot2) : kDw (k + 1) BO BW fQ oc bx by9 x y ot tw false false mk fH cl2 ot2 := by
  obtain ⟨h1, h2, h3, h4, h5, h6, h7, h8, h9, h10⟩ := h
  exact ⟨rfl, h2, h3, h4, h5, h6, h7, h8, h9, fun g => by cases g⟩
theorem kSz {w9 h9 : Int32} (h : (kIn w9 1 40 && kIn h9 1 40) = true) : 0 ≤ (w9 * h9).toInt ∧ (w9 * h9).toInt ≤ 1600 := by
  have e1 : (1 : Int32).toInt = 1 := rfl
  have e2 : (40 : Int32).toInt = 40 := rfl
  have a := kIn_iff.mp (k_andl h)
  have b := kIn_iff.mp (k_andr h)
  rw [e1, e2] at a b
  have g1 : 0 ≤ w9.toInt * h9.toInt := Int.mul_nonneg (by omega) (by omega)
  have g2 : w9.toInt * h9.toInt ≤ 40 * 40 := Int.mul_le_mul a.2 b.2 (by omega) (by omega)
  rw [t32_mul (by omega) (by omega)]
  omega
theorem kDw_open (h : kDw k BO BW fQ oc bx by9 x y ot tw bg cl mk fH cl2 ot2) (ho : oc < 10) {v : Int32} (hv : 0 ≤ v.toInt ∧ v.toInt ≤ 1600) : kDw (k + 1) BO BW (upd fQ oc v) (oc + 1) bx by9 x y ot tw bg cl mk (upd fH oc v) cl2 ot2 := by
  obtain ⟨h1, h2, h3, h4, h5, h6, h7, h8, h9, h10⟩ := h.up
  refine ⟨h1, h2, h3, h4, by omega, fun j hj => ?_, fun j hj => ?_, fun j => ?_, h9, h10⟩
  · show (if j = oc then v else fH j) = if j = oc then v else fQ j
    by_cases e : j = oc
    · rw [if_pos e, if_pos e]
    · rw [if_neg e, if_neg e]; exact h6 j (by omega)
  · show (if j = oc then v else fQ j) = 0
    rw [if_neg (by omega)]; exact h7 j (by omega)
  · show 0 ≤ (if j = oc then v else fQ j).toInt ∧ (if j = oc then v else fQ j).toInt ≤ 1600
    by_cases e : j = oc
    · rw [if_pos e]; exact hv
    · rw [if_neg e]; exact h8 j
theorem kDw_wall (hk : k < 512) (h : kDw k BO BW fQ oc bx by9 x y ot tw bg cl mk fH cl2 ot2) {d q : Int32} (hA : (kIn d 0 3 && kIn q 1 40) = true) (hb : (bg && !cl) = true) (ha : kAd BO bx by9 x y ot d q = true) :
    kCg mk x y bx by9 ot2 (kDx d) (kDy d) q q.toNatClampNeg = true ∧ kWc mk x y (kDx d) (kDy d) cl2 q.toNatClampNeg = (decide (x + q * kDx d = bx) && decide (y + q * kDy d = by9)) ∧
      kDw (k + 1) (kOv BO x y (kDx d) (kDy d) q.toNatClampNeg) (kGw BW x y (y + q * kDy d)) fQ oc bx by9 (x + q * kDx d) (y + q * kDy d) (ot + q) (tw + (x * (y + q * kDy d) - (x + q * kDx d) * y)) bg (decide (x + q * kDx d = bx) && decide (y + q * kDy d = by9)) (kWm mk x y (kDx d) (kDy d) q.toNatClampNeg) fH (decide (x + q * kDx d = bx) && decide (y + q * kDy d = by9)) (kWt mk x y (kDx d) (kDy d) ot2 q.toNatClampNeg) := by
  obtain ⟨h1, h2, h3, h4, h5, h6, h7, h8, h9, h10⟩ := h
  have hbg := k_andl hb
  have hcl := k_notf (k_andr hb)
  have hc2 : cl2 = false := by rw [hbg, hcl] at h1; exact h1.symm
  subst hc2
  have hot : ot2 = ot := h2 rfl
  subst hot
  have hP := h10 hbg
  rw [hcl] at hP
  have hd := k_andl hA
  obtain ⟨m, m1, m2, rfl⟩ := kIn_1 (k_andr hA)
  rw [nI_clamp (by omega)]
  obtain ⟨a1, a2⟩ := kPa_wall hk hP hd h3 h4 m1 m2 ha
  have hbb : BO by9.toNatClampNeg bx.toNatClampNeg = true := by
    obtain ⟨-, n, px, py, hn, hot, q1, q2, q3, ⟨q4, q5, q6, q7⟩, q8, q9, q10⟩ | ⟨h, -⟩ := hP
    · obtain ⟨r1, r2⟩ := kPl_iff.mp h4
      have c1 := t32_cl r1.1
      have c2 := t32_cl r2.1
      exact (q9 bx.toNatClampNeg by9.toNatClampNeg (by omega) (by omega)).mpr ⟨0, by omega, by omega, by omega⟩
    · cases h
  obtain ⟨w1, w2⟩ := kW_closes (ot := ot2) h9 hd h3 h4 hbb m1 m2 ha
  refine ⟨by rw [kCg_eq h9 m1 m2 h4]; exact ha, w1, by rw [hbg]; rfl, w2, a2, h4, h5, h6, h7, h8, ?_, fun _ => a1⟩
  refine kWm_eq h9 m (fun j g1 g2 => ?_)
  obtain ⟨b1, b2⟩ := kAd_all ha m1 m2
  by_cases e : j = m
  · subst e
    exact a2
  · exact kFr_pl (b1 j g1 (by omega))
theorem kDw_no (h : kDw k BO BW fQ oc bx by9 x y ot tw bg cl mk fH cl2 ot2) {d q : Int32} (hA : (kIn d 0 3 && kIn q 1 40) = true) (hb : (bg && !cl) = true) (ha : kAd BO bx by9 x y ot d q = false) : kCg mk x y bx by9 ot2 (kDx d) (kDy d) q q.toNatClampNeg = false := by
  obtain ⟨h1, h2, h3, h4, h5, h6, h7, h8, h9, h10⟩ := h
  have hbg := k_andl hb
  have hcl := k_notf (k_andr hb)
  have hc2 : cl2 = false := by rw [hbg, hcl] at h1; exact h1.symm
  rw [h2 hc2]
  obtain ⟨m, m1, m2, rfl⟩ := kIn_1 (k_andr hA)
  rw [nI_clamp (by omega), kCg_eq h9 m1 m2 h4]
  exact ha
/-- the area of a closed drawing -/
theorem kDw_area (h : kDw k BO BW fQ oc bx by9 x y ot tw bg cl mk fH cl2 ot2) (hc : cl = true) : (bg && cl2) = true ∧ kWh tw = kAb tw ∧ kWh tw = kSq BW 40 ∧ 0 ≤ (kAb tw).toInt ∧ (kAb tw).toInt ≤ 1600 := by
  obtain ⟨h1, h2, h3, h4, h5, h6, h7, h8, h9, h10⟩ := h
  subst hc
  have hP := h10 (k_andl h1.symm)
  obtain ⟨a1, a2, a3⟩ := k_area hP
  exact ⟨h1.symm, kWh_eq tw, (kWh_eq tw).trans a1.symm, a2, a3⟩
end KDR
-- items and rates
section KIR
variable {k ni nr : Nat} {par rt : Nat → Option Nat} {wa me va dn fA fP : Nat → Int32}
theorem kIs_vary (h : kIs k ni par rt wa me va dn nr fA fP) {j : Nat} (hj : j < ni) {v : Int32} (hv : -20000 ≤ v.toInt ∧ v.toInt ≤ 20000) : kIs (k + 1) ni par rt wa me (va_up va j v) dn nr fA fP := by
  obtain ⟨h1, h2, h3, h4⟩ := h.up
  refine ⟨fun i hi => ⟨(h1 i hi).1, by rw [kup_ne _ _ (by omega)]; exact (h1 i hi).2.1, (h1 i hi).2.2⟩, h2, fun i hi => ⟨(h3 i hi).1, (h3 i hi).2.1, ?_⟩, h4⟩
  by_cases e : i = j
  · rw [e, kup_eq]; exact hv
  · rw [kup_ne _ _ e]; exact (h3 i hi).2.2
theorem kIs_done (h : kIs k ni par rt wa me va dn nr fA fP) {j : Nat} (hj : j < ni) {v : Int32} : kIs (k + 1) ni par rt wa me va (va_up dn j v) nr fA fP := by
  obtain ⟨h1, h2, h3, h4⟩ := h.up
  exact ⟨fun i hi => ⟨(h1 i hi).1, (h1 i hi).2.1, by rw [kup_ne _ _ (by omega)]; exact (h1 i hi).2.2⟩, h2, h3, h4⟩
theorem kIs_take (hk : k < 512) (h : kIs k ni par rt wa me va dn nr fA fP) {j : Nat} (hj : j < ni) {a t : Int32} (ha : 0 ≤ a.toInt ∧ a.toInt ≤ 1600) (ht : kIn t 1 20 = true) : kIs (k + 1) ni par rt wa (va_up me j (me j + a * t)) va dn nr fA fP := by
  have hm := (h.2.2.1 j hj).1
  obtain ⟨h1, h2, h3, h4⟩ := h.up
  have e1 : (1 : Int32).toInt = 1 := rfl
  have e2 : (20 : Int32).toInt = 20 := rfl
  have b := kIn_iff.mp ht
  rw [e1, e2] at b
  have g1 : 0 ≤ a.toInt * t.toInt := Int.mul_nonneg ha.1 (by omega)
  have g2 : a.toInt * t.toInt ≤ 1600 * 20 := Int.mul_le_mul ha.2 b.2 (by omega) (by omega)
  have f1 : (a * t).toInt = a.toInt * t.toInt := t32_mul (by omega) (by omega)
  have f2 : (me j + a * t).toInt = (me j).toInt + a.toInt * t.toInt := by rw [t32_add (by omega) (by omega), f1]
  refine ⟨fun i hi => ⟨by rw [kup_ne _ _ (by omega)]; exact (h1 i hi).1, (h1 i hi).2⟩, h2, fun i hi => ⟨?_, (h3 i hi).2⟩, h4⟩
  by_cases e : i = j
  · rw [e, kup_eq, f2]; omega
  · rw [kup_ne _ _ e]; exact (h3 i hi).1
theorem kIs_price (h : kIs k ni par rt wa me va dn nr fA fP) {a b : Int32} (hb : (kIn a 0 2 && kIn b 0 1000) = true) : kIs (k + 1) ni par rt wa me va dn nr fA (upd fP a.toNatClampNeg b) := by
  obtain ⟨h1, h2, h3, h4, h5, h6⟩ := h.up
  have e1 : (0 : Int32).toInt = 0 := rfl
  have e2 : (1000 : Int32).toInt = 1000 := rfl
  have c := kIn_iff.mp (k_andr hb)
  rw [e1, e2] at c
  refine ⟨h1, h2, h3, h4, fun q hq => ?_, h6⟩
  show 0 ≤ (if q = a.toNatClampNeg then b else fP q).toInt ∧ (if q = a.toNatClampNeg then b else fP q).toInt ≤ 1000
  by_cases e : q = a.toNatClampNeg
  · rw [if_pos e]; exact c
  · rw [if_neg e]; exact h5 q hq
theorem kIs_item (hp : ∀ j q, j < ni → par j = some q → q < j) (h : kIs k ni par rt wa me va dn nr fA fP) {o r : Option Nat} {w : Int32} (ho : ∀ q, o = some q → rt q = none ∧ q < ni) (hw : 0 ≤ w.toInt ∧ w.toInt ≤ 50) : va_up me ni 0 = me ∧ va_up va ni 0 = va ∧ va_up dn ni 0 = dn ∧ kIs (k + 1) (ni + 1) (va_up par ni o) (va_up rt ni r) (va_up wa ni w) me va dn nr fA fP := by
  obtain ⟨h1, h2, h3, h4⟩ := h.up
  obtain ⟨z1, z2, z3⟩ := h1 ni (Nat.le_refl _)
  have e0 : (0 : Int32).toInt = 0 := rfl
  refine ⟨kup_id z1, kup_id z2, kup_id z3, fun i hi => h1 i (by omega), fun i q hi hq => ?_, fun i hi => ?_, h4⟩
  · rw [kup_at] at hq
    by_cases e : i = ni
    · rw [if_pos e] at hq
      obtain ⟨g1, g2⟩ := ho q hq
      rw [kup_ne _ _ (by omega)]; exact g1
    · rw [if_neg e] at hq
      have g1 := h2 i q (by omega) hq
      have g2 := hp i q (by omega) hq
      rw [kup_ne _ _ (by omega)]; exact g1
  · by_cases e : i = ni
    · rw [e, z1, z2, kup_eq, e0]; omega
    · rw [kup_ne _ _ e]; exact h3 i (by omega)
theorem kIs_rate (h : kIs k ni par rt wa me va dn nr fA fP) {a b c : Int32} (ha : (kIn a 0 50 && (kIn b 0 50 && kIn c 0 50)) = true) (hno : kNoR fA a b c nr = true) : kIs (k + 1) ni par rt wa me va dn (nr + 1) (fA3 fA nr a b c) fP := by
  obtain ⟨h1, h2, h3, h4, h5, h6⟩ := h.up
  have e1 : (0 : Int32).toInt = 0 := rfl
  have e2 : (50 : Int32).toInt = 50 := rfl
  have c1 := kIn_iff.mp (k_andl ha)
  have c2 := kIn_iff.mp (k_andl (k_andr ha))
  have c3 := kIn_iff.mp (k_andr (k_andr ha))
  rw [e1, e2] at c1 c2 c3
  refine ⟨h1, h2, h3, fun q hq => ?_, h5, fun i j hij hj => ?_⟩
  · by_cases g : q < 3 * nr
    · rw [fA3_old g]; exact h4 q g
    · rcases (show q = 3 * nr ∨ q = 3 * nr + 1 ∨ q = 3 * nr + 2 by omega) with rfl | rfl | rfl
      · rw [fA3_0]; exact c1
      · rw [fA3_1]; exact c2
      · rw [fA3_2]; exact c3
  · by_cases g : j = nr
    · subst g
      rw [fA3_0, fA3_1, fA3_2, fA3_old (by omega), fA3_old (by omega), fA3_old (by omega)]
      rintro ⟨g1, g2, g3⟩
      have := kNoR_at hno hij
      unfold kRe at this
      rw [decide_eq_true g1, decide_eq_true g2, decide_eq_true g3] at this
      cases this
    · rw [fA3_old (by omega), fA3_old (by omega), fA3_old (by omega), fA3_old (by omega), fA3_old (by omega), fA3_old (by omega)]
      exact h6 i j hij (by omega)
end KIR
