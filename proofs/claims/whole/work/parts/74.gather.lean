/-- rows that a list tells of, as the class has them -/
def PRc (κ ρ : Mem) (us : Nat → Nat) (u f tt b : Nat) (x : Int32) (i : Nat) : Prop := ∃ d, d < 12 ∧ mI κ 272 (60 * f + i) = nI d ∧ isa (par ρ) d tt = true ∧ mI κ 274 (16 * (60 * f + i) + b) = x ∧ told us ρ u (nI f) (mI κ 271 (60 * f + i))
/-- objects that are in a list -/
def PTc (ρ : Mem) (tt b : Nat) (x : Int32) (p : Nat) : Prop := LiveS ρ p ∧ ∃ d, d < 12 ∧ mI ρ 1322 p = nI d ∧ isa (par ρ) d tt = true ∧ mI ρ 1324 (16 * p + b) = x
/-- what is in a list, by keys -/
def gS (κ ρ : Mem) (N us : Nat → Nat) (u f tt b : Nat) (x : Int32) (j : Nat) (y : Int32) : Prop := (∃ i, i < N f ∧ PRc κ ρ us u f tt b x i ∧ mI κ 271 (60 * f + i) = y) ∨ ∃ j', j' < j ∧ PTc ρ tt b x (60 * u + j') ∧ mI ρ 1321 (60 * u + j') = y
section GATHER
variable {G : Lay} {nn nn' sc n r0 : Nat} {mc rt hc K K' N us : Nat → Nat} {κ κ' ρ ρ' κ1 ρ1 : Mem} {u k : Nat}
/-- a live object's family is that of what its class is -/
theorem RelA.fam (hA : RelA nn sc n mc rt hc K N r0 us κ ρ) (hu : u < 4) (ho : mI ρ 1316 u = 1) {j tt b : Nat} {x : Int32} (hj : j < us u) (h : PTc ρ tt b x (60 * u + j)) : mI ρ 1320 (60 * u + j) = nI (rt tt) := by
  have xS := hA.2.2.2.1
  have h12 := xS.le
  obtain ⟨hl, d, d0, d1, d2, d3⟩ := h
  obtain ⟨f, f1, f2, c, c1, c2, c3, -⟩ := hA.liv hu ho hj hl
  have e : c = d := (eI (by omega) (by omega)).mp (c2.symm.trans d1)
  subst e
  rw [f2, ← c3, isa_rt xS c c1 d2]
theorem gS_new (hA : RelA nn sc n mc rt hc K N r0 us κ ρ) (hu : u < 4) (ho : mI ρ 1316 u = 1) {j tt b : Nat} {x : Int32} (hj : j < us u) (h : PTc ρ tt b x (60 * u + j)) : ¬ gS κ ρ N us u (rt tt) tt b x j (mI ρ 1321 (60 * u + j)) := by
  have hf := hA.fam hu ho hj h
  have xZ := hA.2.2.2.2.2.2.2.2.2.2.2
  rintro (⟨i, hi, ⟨d, d0, d1, d2, d3, d4⟩, e⟩ | ⟨j', hj', h', e⟩)
  · have := d4 j hj hf e.symm
    rcases h.1 with z | z <;> (rw [this] at z; exact absurd z (by decide))
  · have hf' := hA.fam hu ho (show j' < us u by omega) h'
    have := xZ.2.1 u hu ho j' j (by omega) hj (hf'.trans hf.symm) e
    omega
theorem c_gather (hG : Ly G) (hA : RelA nn sc n mc rt hc K N r0 us κ ρ) (hu : u < 4) (ho : mI ρ 1316 u = 1) (hk : k < us u) {q tt b : Nat} {x : Int32} (hq : q < 531) (g3 : gT G q = 3) (htt : tt < n) (hb : b < 16) (e8 : mI κ q 8 = nI tt) (e11 : mI κ q 11 = nI b) (ex : mI κ (537 + 184 * u + 3 * k) 3 = x) :
    ∃ t a, t ≤ 120 ∧ RunC (fun Q σ => X_X9_gather G Q (533 + 184 * u) (537 + 184 * u + 3 * k) q σ) κ (nI t) (sA κ (536 + 184 * u) a) ∧ Srt a t (gS κ ρ N us u (rt tt) tt b x (us u)) := by
  have hL := hG.1
  obtain ⟨⟨hC, hm, hNu⟩, xT, xF, xS, xN, xK, xR, xU, xW, xD, xY, xZ⟩ := id hA
  have hs2 := xS.s2
  have hT2 := hG.s hs2
  have h12 := xS.le
  obtain ⟨o1, o2, o3, o4, o5⟩ := xU.op hu ho
  have hrt := xS.rt12 htt
  obtain ⟨f, hf0⟩ : ∃ f, f = rt tt := ⟨_, rfl⟩
  rw [← hf0] at hrt ⊢
  have hf : f < 12 := by omega
  have hN60 := (xR.1 f hf).2
  -- first the rows
  obtain ⟨⟨i1, t1, a1⟩, ⟨e1, ht1, hs1⟩, run1⟩ := Lw.run (α := Int32 × Int32 × Mem) (β := Nat × Nat × (Nat → Int32)) (ι := (Int32 → Mem → Prop) × Mem) (fun q' => X_X9_gather_28_s G q'.1 (533 + 184 * u) (537 + 184 * u + 3 * k) q (nI f)) (fun b' q' => (nI b'.2.1, nI (60 * f + b'.1), mg (sA κ (536 + 184 * u) b'.2.2) q'.2)) (N f) (fun i b' => b'.1 = i ∧ b'.2.1 ≤ i ∧ Srt b'.2.2 b'.2.1 (fun y => ∃ i', i' < i ∧ PRc κ ρ us u f tt b x i' ∧ mI κ 271 (60 * f + i') = y)) (by
    rintro i ⟨i0, t, a⟩ hi ⟨rfl, ht, hs⟩
    simp only at ht hs
    have hA2 := hA.scL hu a
    obtain ⟨⟨hC2, -, -⟩, -, -, zS, -, -, zR, zU, -⟩ := id hA2
    obtain ⟨r, hr, w1, w2, w3, w4, w5⟩ := xR.2.2.2.2.1 f hf i0 hi
    obtain ⟨f', d, x', y1, y2, y3, y4, y5, -⟩ := xY r hr
    rw [y4] at w3
    have head : ∀ (q' : (Int32 → Mem → Prop) × Mem) (K' : Int32 × Int32 × Mem → Prop), X_X6_isOf G (fun w11 s10 => ((w11 = 0 → K' (nI t, nI (60 * f + i0 + 1), s10)) ∧ (¬ w11 = 0 → gT G (mR s10 (533 + 184 * u) 0) = 6 ∧ X_X5_get G (fun w14 s13 => gT G (537 + 184 * u + 3 * k) = 8 ∧ ((w14 = (mI s13 (537 + 184 * u + 3 * k) 3) → gT G (mR s13 (533 + 184 * u) 0) = 6 ∧ gT G (mR s13 (mR s13 (533 + 184 * u) 0) 2) = 100 ∧ vp_in (nI (60 * f + i0)) (gL G (mR s13 (mR s13 (533 + 184 * u) 0) 2)) ∧ X_X9_isToldByRow G (fun w20 s19 => ((w20 = 0 → K' (nI t, nI (60 * f + i0 + 1), s19)) ∧ (¬ w20 = 0 → gT G (mR s19 (533 + 184 * u) 0) = 6 ∧ gT G (mR s19 (mR s19 (533 + 184 * u) 0) 2) = 100 ∧ vp_in (nI (60 * f + i0)) (gL G (mR s19 (mR s19 (533 + 184 * u) 0) 2)) ∧ gT G (mR s19 (533 + 184 * u) 3) = 100 ∧ vp_in (nI t) (gL G (mR s19 (533 + 184 * u) 3)) ∧ ∀ s26, s26 = sI s19 (mR s19 (533 + 184 * u) 3) t (mI s19 (mR s19 (mR s19 (533 + 184 * u) 0) 2) (60 * f + i0)) → K' (nI (t + 1), nI (60 * f + i0 + 1), s26)))) (533 + 184 * u) (nI f) (mI s13 (mR s13 (mR s13 (533 + 184 * u) 0) 2) (60 * f + i0)) s13) ∧ (¬ w14 = (mI s13 (537 + 184 * u + 3 * k) 3) → K' (nI t, nI (60 * f + i0 + 1), s13)))) (mR s10 (533 + 184 * u) 0) (nI (60 * f + i0)) (mI s10 q 11) s10))) sc (nI d) (nI tt) (mg (sA κ (536 + 184 * u) a) q'.2) → X_X9_gather_28_s G q'.1 (533 + 184 * u) (537 + 184 * u + 3 * k) q (nI f) K' (nI t, nI (60 * f + i0), mg (sA κ (536 + 184 * u) a) q'.2) := by
      intro q' K' hh
      simp (disch := omega) only [X_X9_gather_28_s, X_X9_gather_126, mR_c, sA_R, hL.2.1, hL.1, hC.2.1, true_and]
      refine c_endOf hL hC2 zR hf ?_
      simp (disch := omega) only [mI_c, mR_c, sA_R, sA_cl, hL.2.1, hL.1, hC.1, hC.2.1, lT, lF, tT, tF, eF, pF, zT, m1F, vT, cI, true_and, and_true, true_implies, false_implies, not_false_eq_true, not_true_eq_false, forall_eq, implies_true, nI_1, w3, g3, e8, zS.r13, hT2.1] at hh ⊢
      exact hh
    cases hisa : isa (par ρ) d tt
    · refine ⟨(i0 + 1, t, a), ⟨rfl, by simp only; omega, hs.cg (fun _ _ => rfl) (fun y => ⟨fun ⟨i', a1, a2⟩ => ⟨i', by omega, a2⟩, fun ⟨i', a1, a2, a3⟩ => ?_⟩)⟩, fun q' K' hK => head q' K' (c_isOf' hG hC2 zS y3 (by omega) (fun e => by rw [hisa] at e; cases e) (fun _ => br0 hK))⟩
      by_cases e : i' = i0
      · subst e
        obtain ⟨d', b0, b1, b2, -⟩ := a2
        rw [w3] at b1
        have : d = d' := (eI (by omega) (by omega)).mp b1
        subst this
        rw [hisa] at b2; cases b2
      · exact ⟨i', by omega, a2, a3⟩
    · by_cases hv : mI κ 274 (16 * (60 * f + i0) + b) = x
      · by_cases htd : told us ρ u (nI f) (mI κ 271 (60 * f + i0))
        · refine ⟨(i0 + 1, t + 1, fun j => if j = t then mI κ 271 (60 * f + i0) else a j), ⟨rfl, by simp only; omega, hs.snoc (x := mI κ 271 (60 * f + i0)) (fun i hi => if_neg (by omega)) (if_pos rfl) (fun y ⟨i', a1, a2, a3⟩ => by rw [← a3]; exact xR.2.2.2.1 f hf i' i0 a1 hi) (fun y => ⟨fun ⟨i', a1, a2, a3⟩ => ?_, ?_⟩)⟩, fun q' K' hK => head q' K' (c_isOf' hG hC2 zS y3 (by omega) (fun _ => br1 ?_) (fun e => by rw [hisa] at e; cases e))⟩
          · by_cases e : i' = i0
            · subst e; exact Or.inr a3.symm
            · exact Or.inl ⟨i', by omega, a2, a3⟩
          · rintro (⟨i', a1, a2, a3⟩ | rfl)
            · exact ⟨i', by omega, a2, a3⟩
            · exact ⟨i0, by omega, ⟨d, by omega, w3, hisa, hv, htd⟩, rfl⟩
          · simp (disch := omega) only [mI_c, mR_c, sA_R, sA_cl, hL.2.1, hL.1, hC.1, hC.2.1, lT, lF, tT, tF, eF, pF, zT, m1F, vT, cI, true_and, and_true, true_implies, false_implies, not_false_eq_true, not_true_eq_false, forall_eq, implies_true, e11]
            refine c_get hL hC2 (by omega) hb ?_
            simp (disch := omega) only [mI_c, mR_c, sA_R, sA_cl, hL.2.1, hL.1, hL.2.2, hC.1, hC.2.1, lT, lF, tT, tF, eF, pF, zT, m1F, vT, cI, true_and, and_true, true_implies, false_implies, not_false_eq_true, not_true_eq_false, forall_eq, implies_true, hv, ex]
            refine c_told hG hA2 hu ho (fun _ => br1 ?_) (fun e => absurd htd e)
            simp (disch := omega) only [mI_c, mR_c, sI_c, sA_R, sA_cl, hL.2.1, hL.1, hC.1, hC.2.1, lT, lF, tT, tF, eF, pF, zT, m1F, vT, cI, true_and, and_true, true_implies, false_implies, not_false_eq_true, not_true_eq_false, forall_eq, implies_true, sA_w]
            exact hK
        · refine ⟨(i0 + 1, t, a), ⟨rfl, by simp only; omega, hs.cg (fun _ _ => rfl) (fun y => ⟨fun ⟨i', a1, a2⟩ => ⟨i', by omega, a2⟩, fun ⟨i', a1, a2, a3⟩ => ?_⟩)⟩, fun q' K' hK => head q' K' (c_isOf' hG hC2 zS y3 (by omega) (fun _ => br1 ?_) (fun e => by rw [hisa] at e; cases e))⟩
          · by_cases e : i' = i0
            · subst e
              obtain ⟨d', b0, b1, b2, b3, b4⟩ := a2
              exact absurd b4 htd
            · exact ⟨i', by omega, a2, a3⟩
          · simp (disch := omega) only [mI_c, mR_c, sA_R, sA_cl, hL.2.1, hL.1, hC.1, hC.2.1, lT, lF, tT, tF, eF, pF, zT, m1F, vT, cI, true_and, and_true, true_implies, false_implies, not_false_eq_true, not_true_eq_false, forall_eq, implies_true, e11]
            refine c_get hL hC2 (by omega) hb ?_
            simp (disch := omega) only [mI_c, mR_c, sA_R, sA_cl, hL.2.1, hL.1, hL.2.2, hC.1, hC.2.1, lT, lF, tT, tF, eF, pF, zT, m1F, vT, cI, true_and, and_true, true_implies, false_implies, not_false_eq_true, not_true_eq_false, forall_eq, implies_true, hv, ex]
            exact c_told hG hA2 hu ho (fun e => absurd e htd) (fun _ => br0 hK)
      · refine ⟨(i0 + 1, t, a), ⟨rfl, by simp only; omega, hs.cg (fun _ _ => rfl) (fun y => ⟨fun ⟨i', a1, a2⟩ => ⟨i', by omega, a2⟩, fun ⟨i', a1, a2, a3⟩ => ?_⟩)⟩, fun q' K' hK => head q' K' (c_isOf' hG hC2 zS y3 (by omega) (fun _ => br1 ?_) (fun e => by rw [hisa] at e; cases e))⟩
        · by_cases e : i' = i0
          · subst e
            obtain ⟨d', b0, b1, b2, b3, b4⟩ := a2
            exact absurd b3 hv
          · exact ⟨i', by omega, a2, a3⟩
        · simp (disch := omega) only [mI_c, mR_c, sA_R, sA_cl, hL.2.1, hL.1, hC.1, hC.2.1, lT, lF, tT, tF, eF, pF, zT, m1F, vT, cI, true_and, and_true, true_implies, false_implies, not_false_eq_true, not_true_eq_false, forall_eq, implies_true, e11]
          refine c_get hL hC2 (by omega) hb ?_
          simp (disch := omega) only [mI_c, mR_c, sA_R, sA_cl, hL.2.1, hL.1, hL.2.2, hC.1, hC.2.1, lT, lF, tT, tF, eF, pF, zT, m1F, vT, cI, true_and, and_true, true_implies, false_implies, not_false_eq_true, not_true_eq_false, forall_eq, implies_true, ex]
          exact brF hv hK) 0 (Nat.zero_le _) (0, 0, mI κ (536 + 184 * u)) ⟨rfl, Nat.le_refl _, (Srt.nil _).cg (fun _ _ => rfl) (fun y => ⟨fun h => h.elim, fun ⟨i', h, _⟩ => by omega⟩)⟩
  simp only at e1 ht1 hs1
  subst e1
  -- then the objects
  obtain ⟨⟨j2, t2, a2⟩, ⟨e2, ht2, hs2'⟩, run2⟩ := Lw.run (α := Int32 × Int32 × Mem) (β := Nat × Nat × (Nat → Int32)) (ι := (Int32 → Mem → Prop) × Mem) (fun q' => X_X9_gather_135_s G q'.1 (533 + 184 * u) (537 + 184 * u + 3 * k) q) (fun b' q' => (nI b'.2.1, nI b'.1, mg (sA κ (536 + 184 * u) b'.2.2) q'.2)) (us u) (fun j b' => b'.1 = j ∧ b'.2.1 ≤ N f + j ∧ Srt b'.2.2 b'.2.1 (gS κ ρ N us u f tt b x j)) (by
    rintro j ⟨j0, t, a⟩ hj ⟨rfl, ht, hs⟩
    simp only at ht hs
    have hA2 := hA.scL hu a
    obtain ⟨⟨hC2, -, -⟩, -, -, zS, -, -, zR, zU, -⟩ := id hA2
    obtain ⟨h1, h2, h3, h4, h5, h6⟩ := o5 j0 hj
    have head : ∀ (q' : (Int32 → Mem → Prop) × Mem) (K' : Int32 × Int32 × Mem → Prop), X_X7_isLive G (fun w6 s5 => ((w6 = 0 → K' (nI t, nI (j0 + 1), s5)) ∧ (¬ w6 = 0 → gT G (mR s5 (533 + 184 * u) 0) = 6 ∧ gT G q = 3 ∧ gT G (mR s5 (mR s5 (533 + 184 * u) 0) 0) = 7 ∧ X_X6_isOf G (fun w11 s10 => ((w11 = 0 → K' (nI t, nI (j0 + 1), s10)) ∧ (¬ w11 = 0 → gT G (mR s10 (537 + 184 * u + 3 * j0) 6) = 100 ∧ vp_in (mI s10 q 11) (gL G (mR s10 (537 + 184 * u + 3 * j0) 6)) ∧ gT G (537 + 184 * u + 3 * k) = 8 ∧ (((mI s10 (mR s10 (537 + 184 * u + 3 * j0) 6) (mI s10 q 11).toNatClampNeg) = (mI s10 (537 + 184 * u + 3 * k) 3) → X_X9_enlist G (fun s15 => K' (nI (t + 1), nI (j0 + 1), s15)) (533 + 184 * u) (mI s10 (537 + 184 * u + 3 * j0) 3) (nI t) s10) ∧ (¬ (mI s10 (mR s10 (537 + 184 * u + 3 * j0) 6) (mI s10 q 11).toNatClampNeg) = (mI s10 (537 + 184 * u + 3 * k) 3) → K' (nI t, nI (j0 + 1), s10)))))) (mR s5 (mR s5 (533 + 184 * u) 0) 0) (mI s5 (537 + 184 * u + 3 * j0) 4) (mI s5 q 8) s5))) (537 + 184 * u + 3 * j0) (mg (sA κ (536 + 184 * u) a) q'.2) → X_X9_gather_135_s G q'.1 (533 + 184 * u) (537 + 184 * u + 3 * k) q K' (nI t, nI j0, mg (sA κ (536 + 184 * u) a) q'.2) := by
      intro q' K' hh
      simp (disch := omega) only [X_X9_gather_135_s, X_X9_gather_214, mI_c, mR_c, sA_R, sA_cl, hL.2.1, hL.2.2, hC.2.1, hC.2.2.1, lT, lF, tT, tF, eF, pF, zT, m1F, vT, cI, true_and, and_true, true_implies, false_implies, not_false_eq_true, not_true_eq_false, forall_eq, implies_true, nI_1, o2] at hh ⊢
      exact hh
    have skip : ¬ PTc ρ tt b x (60 * u + j0) → Srt a t (gS κ ρ N us u f tt b x (j0 + 1)) := fun hn => hs.cg (fun _ _ => rfl) (fun y => ⟨fun h => h.imp id (fun ⟨j', a1, a2⟩ => ⟨j', by omega, a2⟩), fun h => h.imp id (fun ⟨j', a1, a2, a3⟩ => by
      by_cases e : j' = j0
      · subst e; exact absurd a2 hn
      · exact ⟨j', by omega, a2, a3⟩)⟩)
    by_cases hl : LiveS ρ (60 * u + j0)
    · obtain ⟨f', f1, f2, d, d1, d2, d3, -⟩ := hA.liv hu ho hj hl
      rw [d2] at h4
      cases hisa : isa (par ρ) d tt
      · refine ⟨(j0 + 1, t, a), ⟨rfl, by simp only; omega, skip ?_⟩, fun q' K' hK => head q' K' (c_isLive1 hL hu (by omega) (by rw [sA_cl (by omega), h1]; exact hl) (br1 ?_))⟩
        · rintro ⟨-, d', b0, b1, b2, -⟩
          have : d = d' := (eI (by omega) (by omega)).mp (d2.symm.trans b1)
          subst this
          rw [hisa] at b2; cases b2
        · simp (disch := omega) only [mI_c, mR_c, sA_R, sA_cl, hL.2.1, hL.1, hC.1, hC.2.1, lT, lF, tT, tF, eF, pF, zT, m1F, vT, cI, true_and, and_true, true_implies, false_implies, not_false_eq_true, not_true_eq_false, forall_eq, implies_true, g3, e8, h4, xS.r13, hT2.1]
          exact c_isOf' hG hC2 zS d1 (by omega) (fun e => by rw [hisa] at e; cases e) (fun _ => br0 hK)
      · by_cases hv : mI ρ 1324 (16 * (60 * u + j0) + b) = x
        · have hPT : PTc ρ tt b x (60 * u + j0) := ⟨hl, d, by omega, d2, hisa, hv⟩
          obtain ⟨p, p1, p2, p3⟩ := insPos a (mI ρ 1321 (60 * u + j0)) t
          refine ⟨(j0 + 1, t + 1, insAt a t p (mI ρ 1321 (60 * u + j0))), ⟨rfl, by simp only; omega, hs.ins p1 p2 p3 (by rw [hf0]; exact gS_new hA hu ho hj hPT) (fun _ _ => rfl) (fun y => ⟨fun h => ?_, fun h => ?_⟩)⟩, fun q' K' hK => head q' K' (c_isLive1 hL hu (by omega) (by rw [sA_cl (by omega), h1]; exact hl) (br1 ?_))⟩
          · rcases h with h | ⟨j', a1, a2, a3⟩
            · exact Or.inl (Or.inl h)
            · by_cases e : j' = j0
              · subst e; exact Or.inr a3.symm
              · exact Or.inl (Or.inr ⟨j', by omega, a2, a3⟩)
          · rcases h with (h | ⟨j', a1, a2, a3⟩) | rfl
            · exact Or.inl h
            · exact Or.inr ⟨j', by omega, a2, a3⟩
            · exact Or.inr ⟨j0, by omega, hPT, rfl⟩
          · simp (disch := omega) only [mI_c, mR_c, sA_R, sA_cl, hL.2.1, hL.1, hC.1, hC.2.1, lT, lF, tT, tF, eF, pF, zT, m1F, vT, cI, true_and, and_true, true_implies, false_implies, not_false_eq_true, not_true_eq_false, forall_eq, implies_true, g3, e8, h4, xS.r13, hT2.1]
            refine c_isOf' hG hC2 zS d1 (by omega) (fun _ => br1 ?_) (fun e => by rw [hisa] at e; cases e)
            simp (disch := omega) only [mI_c, mR_c, sA_R, sA_cl, hL.2.1, hL.1, hL.2.2, hC.1, hC.2.2.1, lT, lF, tT, tF, eF, pF, zT, m1F, vT, cI, true_and, and_true, true_implies, false_implies, not_false_eq_true, not_true_eq_false, forall_eq, implies_true, e11, (h6 b hb).1, hv, ex, h3]
            refine c_enlist hL hC2 hu (by omega) p1 ?_ ?_ ?_
            · intro i i1 i2; rw [sA_is]; exact p2 i i1 i2
            · rw [sA_is]; exact p3
            · rw [sA_A, show mI (sA κ (536 + 184 * u) a) (536 + 184 * u) = a from funext fun i => sA_is]; exact hK
        · refine ⟨(j0 + 1, t, a), ⟨rfl, by simp only; omega, skip (fun h => ?_)⟩, fun q' K' hK => head q' K' (c_isLive1 hL hu (by omega) (by rw [sA_cl (by omega), h1]; exact hl) (br1 ?_))⟩
          · obtain ⟨-, d', b0, b1, b2, b3⟩ := h
            exact hv b3
          · simp (disch := omega) only [mI_c, mR_c, sA_R, sA_cl, hL.2.1, hL.1, hC.1, hC.2.1, lT, lF, tT, tF, eF, pF, zT, m1F, vT, cI, true_and, and_true, true_implies, false_implies, not_false_eq_true, not_true_eq_false, forall_eq, implies_true, g3, e8, h4, xS.r13, hT2.1]
            refine c_isOf' hG hC2 zS d1 (by omega) (fun _ => br1 ?_) (fun e => by rw [hisa] at e; cases e)
            simp (disch := omega) only [mI_c, mR_c, sA_R, sA_cl, hL.2.1, hL.1, hL.2.2, hC.1, hC.2.2.1, lT, lF, tT, tF, eF, pF, zT, m1F, vT, cI, true_and, and_true, true_implies, false_implies, not_false_eq_true, not_true_eq_false, forall_eq, implies_true, e11, (h6 b hb).1, ex, h3]
            exact brF hv hK
    · exact ⟨(j0 + 1, t, a), ⟨rfl, by simp only; omega, skip (fun h => hl h.1)⟩, fun q' K' hK => head q' K' (c_isLive0 hL hu (by omega) (by rw [sA_cl (by omega), h1]; exact hl) (br0 hK))⟩) 0 (Nat.zero_le _) (0, t1, a1) ⟨rfl, by simp only; omega, hs1.cg (fun _ _ => rfl) (fun y => ⟨fun h => Or.inl h, fun h => h.elim id (fun ⟨j', h, _⟩ => by omega)⟩)⟩
  simp only at e2 ht2 hs2'
  subst e2
  refine ⟨t2, a2, by omega, fun ρ1 Q hQ => ?_, hs2'⟩
  simp (disch := omega) only [X_X9_gather_126, X_X9_gather_214, X_X9_gather_0, X_X9_gather, mR_c, mI_c, hL.1, hL.2.1, hC.2.1, g3, e8, xS.r13, hT2.1, true_and]
  refine c_rootOf1 hG hC xS htt ?_
  rw [← hf0]
  simp (disch := omega) only [mR_c, hL.1, hC.2.1, true_and]
  refine c_firstOf hf ?_
  unfold X_X9_gather_28
  have z1 := run1 (Q, ρ1) (fun K' => ?_)
  · simp only [Nat.add_zero, sA_id] at z1
    exact z1
  · have hA2 := hA.scL hu a1
    simp (disch := omega) only [X_X9_gather_28_s, mR_c, sA_R, hL.2.1, hL.1, hC.2.1, true_and]
    refine c_endOf hL hA2.1.1 hA2.2.2.2.2.2.2.1 hf (brT (Int32.le_refl _) ?_)
    unfold X_X9_gather_135
    refine run2 (Q, ρ1) (fun K' => ?_)
    simp (disch := omega) only [X_X9_gather_135_s, mI_c, sA_cl, hL.2.1, true_and, o2]
    exact brT (Int32.le_refl _) hQ
end GATHER
