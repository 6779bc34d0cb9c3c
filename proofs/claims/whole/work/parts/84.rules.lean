/-! the rules, of one value -/
/-- another row of a class that has the member has the value -/
def tkn (r0 : Nat) (ρ : Mem) (f : Nat) (x : Int32) (o m : Nat) (v : Int32) : Prop := ∃ r, r < r0 ∧ ¬ (mI ρ 1305 r = nI f ∧ mI ρ 1306 r = x) ∧ (∃ d, d < 12 ∧ mI ρ 1307 r = nI d ∧ isa (par ρ) d o = true) ∧ mI ρ 1309 (16 * r + m) = v
/-- it leads to a row of a class that is the one told, itself too -/
def led (r0 : Nat) (rt : Nat → Nat) (ρ : Mem) (f : Nat) (x : Int32) (c t : Nat) (v : Int32) : Prop := (rt t = f ∧ v = x) ∧ isa (par ρ) c t = true ∨ ¬ (rt t = f ∧ v = x) ∧ ∃ r, r < r0 ∧ mI ρ 1305 r = nI (rt t) ∧ mI ρ 1306 r = v ∧ ∃ d, d < 12 ∧ mI ρ 1307 r = nI d ∧ isa (par ρ) d t = true
/-- must, unique, leads are broken -/
def bkM (ρ : Mem) (c m : Nat) (v : Int32) : Prop := mI ρ 1290 (16 * c + m) = 4 ∧ mI ρ 1294 (16 * c + m) &&& 2 ≠ 0 ∧ v = 0
def bkU (r0 : Nat) (ρ : Mem) (f : Nat) (x : Int32) (c m : Nat) (v : Int32) : Prop := mI ρ 1294 (16 * c + m) &&& 1 ≠ 0 ∧ ∃ o, o < 12 ∧ mI ρ 1296 (16 * c + m) = nI o ∧ tkn r0 ρ f x o m v
def bkL (r0 : Nat) (rt : Nat → Nat) (ρ : Mem) (f : Nat) (x : Int32) (c m : Nat) (v : Int32) : Prop := mI ρ 1290 (16 * c + m) = 4 ∧ v ≠ 0 ∧ ∃ t, t < 12 ∧ mI ρ 1291 (16 * c + m) = nI t ∧ ¬ led r0 rt ρ f x c t v
noncomputable def ifp {α : Type} (p : Prop) (a b : α) : α := @ite α p (Classical.propDecidable p) a b
theorem ifp_t {α : Type} {p : Prop} {a b : α} (h : p) : ifp p a b = a := if_pos h
theorem ifp_f {α : Type} {p : Prop} {a b : α} (h : ¬ p) : ifp p a b = b := if_neg h
/-- the number of the broken rule, -1 for none -/
noncomputable def rul (r0 : Nat) (rt : Nat → Nat) (ρ : Mem) (f : Nat) (x : Int32) (c m : Nat) (v : Int32) : Int32 := ifp (bkM ρ c m v) 0 (ifp (bkU r0 ρ f x c m v) 1 (ifp (bkL r0 rt ρ f x c m v) 2 (-1)))
section RULES
variable {G : Lay} {nn nn' sc n r0 : Nat} {mc rt hc K K' N us : Nat → Nat} {κ κ' ρ ρ' κ1 ρ1 : Mem} {u k : Nat}
theorem c_isTaken (hG : Ly G) (hC : StC κ) (hS : RelS sc n mc rt hc κ ρ) (hR : RelR N r0 κ ρ) (hY : RowsW n r0 mc rt K ρ) {q f o m : Nat} {x v : Int32} (hq : q < 531) (g3 : gT G q = 3) (ho : o < n) (eo : mI κ q 1 = nI o) (hf : rt o = f) (hm : m < 16) {Q : Int32 → Mem → Prop} (k1 : tkn r0 ρ f x o m v → Q 1 (mg κ ρ1)) (k0 : ¬ tkn r0 ρ f x o m v → Q 0 (mg κ ρ1)) : X_X5_isTaken G Q 13 q x (nI m) v (mg κ ρ1) := by
  have hL := hG.1
  have h12 := hS.le
  have hT2 := hG.s hS.s2
  have hrt := hS.rt12 ho
  subst hf
  have hN60 := (hR.1 (rt o) (by omega)).2
  simp (disch := omega) only [X_X5_isTaken_78, X_X5_isTaken_0, X_X5_isTaken, mI_c, mR_c, hL.1, hC.1, hS.r13, hT2.1, g3, eo, true_and]
  refine c_rootOf1 hG hC hS ho (c_firstOf (by omega) ?_)
  unfold X_X5_isTaken_21
  have step : ∀ i, i < N (rt o) → ∃ r d, r < r0 ∧ d < n ∧ mI ρ 1305 r = nI (rt o) ∧ mI κ 271 (60 * rt o + i) = mI ρ 1306 r ∧ mI κ 272 (60 * rt o + i) = nI d ∧ mI ρ 1307 r = nI d ∧ mI κ 274 (16 * (60 * rt o + i) + m) = mI ρ 1309 (16 * r + m) := by
    intro i hi
    obtain ⟨r, hr, w1, w2, w3, w4, w5⟩ := hR.2.2.2.2.1 (rt o) (by omega) i hi
    obtain ⟨f', d, x', y1, y2, y3, y4, -⟩ := hY r hr
    exact ⟨r, d, hr, y3, w1, w2, w3.trans y4, y4, w5 m hm⟩
  refine Lw.nat (N (rt o)) (fun i y => y = (nI (60 * rt o + i), mg κ ρ1) ∧ ∀ j, j < i → ¬ (mI κ 271 (60 * rt o + j) ≠ x ∧ (∃ d, d < 12 ∧ mI κ 272 (60 * rt o + j) = nI d ∧ isa (par ρ) d o = true) ∧ mI κ 274 (16 * (60 * rt o + j) + m) = v)) ?_ 0 (Nat.zero_le _) _ ⟨rfl, fun j hj => by omega⟩
  rintro K' i y hi ⟨rfl, hj⟩ hk
  unfold X_X5_isTaken_21_s
  refine ⟨by simp only [hL.1], c_endOf hL hC hR (by omega) ?_⟩
  by_cases hlt : i < N (rt o)
  · obtain ⟨r, d, hr, hd, s1, s2, s3, s4, s5⟩ := step i hlt
    simp (disch := omega) only [X_X5_isTaken_78, mI_c, mR_c, hL.1, hC.1, hS.r13, hT2.1, lT, lF, tT, tF, eF, pF, zT, m1F, vT, cI, true_and, and_true, true_implies, false_implies, not_false_eq_true, not_true_eq_false, forall_eq, implies_true, nI_1, g3, eo, s3]
    have next : (¬ (mI κ 271 (60 * rt o + i) ≠ x ∧ (∃ d, d < 12 ∧ mI κ 272 (60 * rt o + i) = nI d ∧ isa (par ρ) d o = true) ∧ mI κ 274 (16 * (60 * rt o + i) + m) = v)) → K' (nI (60 * rt o + i + 1), mg κ ρ1) := fun hn => hk _ hlt ⟨rfl, fun j hj2 => by
      by_cases e : j = i
      · subst e; exact hn
      · exact hj j (by omega)⟩
    refine ⟨fun e => next (fun h => h.1 e), fun e => c_isOf' hG hC hS hd (by omega) (fun hi1 => br1 ?_) (fun hi0 => br0 (next (fun h => ?_)))⟩
    · refine c_get hL hC (by omega) hm ⟨fun ev => ⟨bz1, k1 ⟨r, hr, fun h => e (s2.trans h.2), ⟨d, by omega, s4, hi1⟩, s5.symm.trans ev⟩⟩, fun ev => next (fun h => ev h.2.2)⟩
    · obtain ⟨-, ⟨d', d0, d1, d2⟩, -⟩ := h
      have : d = d' := (eI (by omega) (by omega)).mp (s3.symm.trans d1)
      subst this
      rw [hi0] at d2; cases d2
  · obtain rfl : i = N (rt o) := by omega
    refine brT (Int32.le_refl _) ⟨bz0, k0 ?_⟩
    rintro ⟨r, hr, h1, ⟨d, d0, d1, d2⟩, h3⟩
    obtain ⟨g, hg, i, hi2, w1, w2, w3, w4, w5⟩ := hR.2.2.2.2.2.1 r hr
    obtain ⟨f', d', x', y1, y2, y3, y4, y5, -⟩ := hY r hr
    have ed : d' = d := (eI (by omega) (by omega)).mp (y4.symm.trans d1)
    subst ed
    have er := isa_rt hS d' y3 d2
    have eg : g = rt o := by
      have : f' = g := (eI (by omega) (by omega)).mp (y2.symm.trans w1)
      omega
    subst eg
    exact hj i hi2 ⟨fun e => h1 ⟨w1, w2.symm.trans e⟩, ⟨d', d0, w3.trans d1, d2⟩, (w5 m hm).trans h3⟩
theorem c_leads (hG : Ly G) (hC : StC κ) (hS : RelS sc n mc rt hc κ ρ) (hR : RelR N r0 κ ρ) (hY : RowsW n r0 mc rt K ρ) {q f c t : Nat} {x v : Int32} (hq : q < 531) (g3 : gT G q = 3) (ht : t < n) (et : mI κ q 8 = nI t) (hc1 : c < n) (hf : rt c = f) {Q : Int32 → Mem → Prop} (k1 : led r0 rt ρ f x c t v → Q 1 (mg κ ρ1)) (k0 : ¬ led r0 rt ρ f x c t v → Q 0 (mg κ ρ1)) : X_X5_leads G Q 13 q (nI c) x v (mg κ ρ1) := by
  have hL := hG.1
  have h12 := hS.le
  have hT2 := hG.s hS.s2
  have hrt := hS.rt12 ht
  have hrc := hS.rt12 hc1
  have h720 := hR.le
  subst hf
  have tail : ¬ (rt t = rt c ∧ v = x) → X_X5_leads_45 G Q 13 q v (nI (rt t)) (mg κ ρ1) := by
    intro hn
    simp (disch := omega) only [X_X5_leads_45, X_X5_leads_86, X_X5_leads_87, hL.1, true_and, bzT1, bzT0]
    rcases rowCase hR (show rt t < 12 by omega) v with ⟨i, r, i1, r1, ⟨w1, w2, w3, w4, w5⟩, ez⟩ | ⟨q1, q2⟩
    · obtain ⟨f', d, x', y1, y2, y3, y4, -⟩ := hY r r1
      rw [y4] at w3
      have i60 := (hR.1 (rt t) (by omega)).2
      refine c_rowOf1 hL hC hR (by omega) i1 (w2.trans ez) (brF (mI1 (by omega)) ?_)
      simp (disch := omega) only [mI_c, mR_c, hL.1, hC.1, hS.r13, hT2.1, lT, lF, tT, tF, eF, pF, zT, m1F, vT, cI, true_and, and_true, true_implies, false_implies, not_false_eq_true, not_true_eq_false, forall_eq, implies_true, g3, et, w3]
      refine c_isOf' hG hC hS y3 (by omega) (fun e => br1 (k1 (Or.inr ⟨hn, r, r1, w1, ez, d, by omega, y4, e⟩))) (fun e => br0 (k0 (fun h => ?_)))
      rcases h with h | ⟨-, r', a1, a2, a3, d', a4, a5, a6⟩
      · exact hn h.1
      · have er := hR.2.2.2.2.2.2.1 r' r a1 r1 (a2.trans w1.symm) (a3.trans ez.symm)
        subst er
        have ed : d = d' := (eI (by omega) (by omega)).mp (y4.symm.trans a5)
        subst ed
        rw [e] at a6; cases a6
    · refine c_rowOf0 hL hC hR (by omega) q1 (brT rfl (k0 (fun h => ?_)))
      rcases h with h | ⟨-, r', a1, a2, a3, -⟩
      · exact hn h.1
      · exact q2 r' a1 ⟨a2, a3⟩
  simp (disch := omega) only [X_X5_leads, X_X5_leads_0, mI_c, mR_c, hL.1, hC.1, hS.r13, hT2.1, g3, et, true_and]
  refine c_rootOf1 hG hC hS ht ⟨fun ev => ?_, fun ev => tail (fun h => ev h.2)⟩
  simp (disch := omega) only [mR_c, hS.r13, hT2.1, true_and]
  refine c_rootOf1 hG hC hS hc1 ⟨fun er => ?_, fun er => tail (fun h => er (by rw [h.1]))⟩
  have er' : rt t = rt c := (eI (by omega) (by omega)).mp er
  simp (disch := omega) only [mI_c, mR_c, hS.r13, hT2.1, true_and, et]
  exact c_isOf' hG hC hS hc1 (by omega) (fun e => ⟨bz1, k1 (Or.inl ⟨⟨er', ev⟩, e⟩)⟩) (fun e => ⟨bz0, k0 (fun h => by
    rcases h with ⟨-, h⟩ | ⟨h, -⟩
    · rw [e] at h; cases h
    · exact h ⟨er', ev⟩)⟩)
/-- the rule that a value breaks, as the class finds it -/
theorem c_brokenRule (hG : Ly G) (hC : StC κ) (hS : RelS sc n mc rt hc κ ρ) (hR : RelR N r0 κ ρ) (hY : RowsW n r0 mc rt K ρ) {f c m : Nat} {x v : Int32} (hc1 : c < n) (hf : rt c = f) (hm1 : m < mc c) {Q : Int32 → Mem → Prop} (q : Q (rul r0 rt ρ f x c m v) (mg κ ρ1)) : X_X5_brokenRule G Q 13 (nI c) x (nI m) v (mg κ ρ1) := by
  have hL := hG.1
  have h12 := hS.le
  have h16 := hS.m16 hc1
  have hT2 := hG.s hS.s2
  obtain ⟨g3, g4, g5⟩ := memT hG hS hc1 hm1
  obtain ⟨q0, q1, q2, q3, q5, q8, q11⟩ := hS.mem hc1 hm1
  obtain ⟨⟨kk, k5, ek, k3, ⟨ff, f6, ef, fk1, fk2, fk3⟩, kt⟩, o, o1, o2, o3, o4, o5⟩ := hS.mw hc1 hm1
  have hro := isa_rt hS c hc1 o5
  rw [ek] at q2 q8
  rw [ef] at q3
  unfold rul at q
  simp (disch := omega) only [X_X5_brokenRule, X_X5_brokenRule_0, X_X5_brokenRule_25, mR_c, hL.1, hS.r13, hT2.1, true_and]
  refine c_memberAt1 hG hC hS hc1 hm1 (brF (by omega) ?_)
  simp (disch := omega) only [X_X2_has_14, X_X2_has_0, X_X2_has, mI_c, g3, q2, q3, true_and, bzT1, bzT0]
  -- behind must
  have r67 : (¬ bkM ρ c m v → ¬ bkU r0 ρ f x c m v → kk ≠ 5 → X_X5_brokenRule_67 G Q 13 (nI c) x v (mR κ (sc + 5 + 5 * c) m) (mg κ ρ1)) := by
    intro n1 n2 n3
    rw [ifp_f n1, ifp_f n2] at q
    simp (disch := omega) only [X_X5_brokenRule_67, X_X5_brokenRule_96, mI_c, g3, q2, true_and, hL.1]
    by_cases h4 : kk = 4
    · subst h4
      obtain ⟨t, ht, et, -⟩ := kt (by omega)
      have q8' := (q8 (Int32.le_refl _)).trans et
      refine brT rfl ⟨fun e => ?_, fun e => c_leads hG hC hS hR hY g4 g3 ht q8' hc1 hf (fun h => br1 ?_) (fun h => br0 ?_)⟩
      · rw [ifp_f (fun h => h.2.1 e)] at q; exact q
      · rw [ifp_f (fun ⟨h1, h2, t', h3, h4', h5⟩ => by
          have : t' = t := (eI (by omega) (by omega)).mp (h4'.symm.trans et)
          subst this; exact h5 h)] at q
        exact q
      · rw [ifp_t ⟨ek, e, t, by omega, et, h⟩] at q; exact q
    · refine brF (fun e => h4 ((eI (b := 4) (by omega) (by decide)).mp e)) ?_
      rw [ifp_f (fun h => h4 ((eI (b := 4) (by omega) (by decide)).mp (ek.symm.trans h.1)))] at q
      exact q
  have r43 : (¬ bkM ρ c m v → kk ≠ 5 → X_X5_brokenRule_43 G Q 13 (nI c) x (nI m) v (mR κ (sc + 5 + 5 * c) m) (mg κ ρ1)) := by
    intro n1 n3
    simp (disch := omega) only [X_X5_brokenRule_43, X_X2_has_14, X_X2_has_0, X_X2_has, mI_c, g3, q3, true_and, bzT1, bzT0, hL.1]
    refine ⟨fun e => brT (by trivial) (r67 n1 (fun h => h.1 (by rw [ef]; exact e)) n3), fun e => ?_⟩
    refine brF (by decide) (c_isTaken (f := f) hG hC hS hR hY g4 g3 (show o < n by omega) (q1.trans o2) (hro.symm.trans hf) (by omega) (fun h => br1 ?_) (fun h => br0 (r67 n1 (fun ⟨h1, o', o1', h2, h3⟩ => ?_) n3)))
    · rw [ifp_f n1, ifp_t ⟨by rw [ef]; exact e, o, by omega, o2, h⟩] at q; exact q
    · have : o' = o := (eI (by omega) (by omega)).mp (h2.symm.trans o2)
      subst this; exact h h3
  by_cases h5 : kk = 5
  · subst h5
    refine brT rfl ?_
    rw [ifp_f (fun h => absurd (ek.symm.trans h.1) (by decide)), ifp_f (fun h => ?_), ifp_f (fun h => absurd (ek.symm.trans h.1) (by decide))] at q
    · exact q
    · have h1 := h.1
      rw [ef] at h1
      rcases fk3 rfl with rfl | rfl
      · exact h1 (by decide)
      · exact h1 (by decide)
  · refine brF (fun e => h5 ((eI (b := 5) (by omega) (by decide)).mp e)) ⟨fun e => brT (by trivial) (r43 (fun h => h.2.1 (by rw [ef]; exact e)) h5), fun e => brF (by decide) ⟨fun ev => ?_, fun ev => r43 (fun h => ev h.2.2) h5⟩⟩
    have h4 : mI ρ 1290 (16 * c + m) = 4 := by
      have : kk = 4 := by
        by_cases hk : kk < 4
        · exfalso
          have := fk1 hk
          have : ff = 0 ∨ ff = 1 := by omega
          rcases this with rfl | rfl
          · exact e (by decide)
          · exact e (by decide)
        · omega
      subst this; exact ek
    rw [ifp_t ⟨h4, by rw [ef]; exact e, ev⟩] at q
    exact q
end RULES
