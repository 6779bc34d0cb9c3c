section CALLS7
variable {G : Lay} {nn nn' sc n r0 : Nat} {mc rt hc K K' N us : Nat → Nat} {κ κ' ρ ρ' κ1 ρ1 : Mem} {u k : Nat}
/-- family and key of an object, its class if it is not a stand -/
theorem j_find (hG : Ly G) (hnn : nn ≤ 512) (h : Rel nn κ ρ) (x y z : Int32) : Jt nn (fun Q σ => X_X11_find G Q 1 x y z σ) (fun Q σ => X_X12_find G Q 1282 x y z σ) κ ρ := by
  have h0 := h
  obtain ⟨sc, n, mc, rt, hc, K, N, r0, us, hA⟩ := h
  have hL := hG.1
  have hM := hG.2.2.2
  obtain ⟨⟨hC, hm, hNu⟩, xT, xF, xS, xN, xK, xR, xU, xW, xD, xY, xZ⟩ := id hA
  have hT2 := hG.s xS.s2
  have hs2 := xS.s2
  have h12 := xS.le
  rcases unitCase xU x with ⟨u, hu, rfl, ho⟩ | hx
  · obtain ⟨o1, o2, o3, o4, o5⟩ := xU.op hu ho
    rcases clsCase n y with ⟨c, hc1, rfl⟩ | hy
    · have hrc := xS.rt12 hc1
      have hrt := (xS.cls hc1).2.1
      have cHead : ∀ (ρ1 : Mem) (Q : Int32 → Mem → Prop), X_X9_fetch G (fun w11 s10 => Q w11 s10) (533 + 184 * u) (nI c) (nI (rt c)) z (mg κ ρ1) → X_X11_find G Q 1 (nI u) (nI c) z (mg κ ρ1) := by
        intro ρ1 Q hQ
        simp (disch := omega) only [X_X11_find_30, X_X11_find_0, X_X11_find, true_and, hL.1]
        refine c_openUnit1 hL hC xU hu ho ?_
        simp (disch := omega) only [mI_c, mR_c, mJ_c, sI_c, sJ_c, sR_c, hL.1, hL.2.1, hL.2.2, hC.1, hC.2.1, hC.2.2.1, lT, lF, tT, tF, eF, pF, zT, m1F, vT, cI, true_and, and_true, true_implies, false_implies, not_false_eq_true, not_true_eq_false, forall_eq, implies_true, xS.r13, hT2.1]
        refine c_kindAt1 hG hC xS hc1 (brF (by omega) (brF (by omega) ?_))
        simp (disch := omega) only [mI_c, mR_c, mJ_c, sI_c, sJ_c, sR_c, hL.1, hL.2.1, hL.2.2, hC.1, hC.2.1, hC.2.2.1, lT, lF, tT, tF, eF, pF, zT, m1F, vT, cI, true_and, and_true, true_implies, false_implies, not_false_eq_true, not_true_eq_false, forall_eq, implies_true, hT2.2.1, hrt]
        exact hQ
      have mHead : ∀ (κ1 : Mem) (Q : Int32 → Mem → Prop), X_X12_objectOf G (fun w9 s8 => ((w9 < 0 → X_X12_find_85 G Q 1282 (nI u) (nI c) z (nI (rt c)) s8) ∧ (¬ w9 < 0 → gT G (mR s8 1282 42) = 100 ∧ vp_in w9 (gL G (mR s8 1282 42)) ∧ (((mI s8 (mR s8 1282 42) w9.toNatClampNeg) = 0 → X_X12_find_85 G Q 1282 (nI u) (nI c) z (nI (rt c)) s8) ∧ (¬ (mI s8 (mR s8 1282 42) w9.toNatClampNeg) = 0 → X_X12_isLive G (fun w13 s12 => ((w13 = 0 → X_X12_find_83 G Q s12) ∧ (¬ w13 = 0 → gT G (mR s12 1282 45) = 100 ∧ vp_in w9 (gL G (mR s12 1282 45)) ∧ X_X12_isA G (fun w17 s16 => ((w17 = 0 → X_X12_find_83 G Q s16) ∧ (¬ w17 = 0 → X_X12_numberOf G (fun w19 s18 => X_X12_find_84 G Q w19 s18) w9 s16))) 1282 (0 : Int32) (mI s12 (mR s12 1282 45) w9.toNatClampNeg) (nI c) s12))) 1282 w9 s8))))) 1282 (nI u) (nI (rt c)) z (mg κ1 ρ) → X_X12_find G Q 1282 (nI u) (nI c) z (mg κ1 ρ) := by
        intro κ1 Q hQ
        simp (disch := omega) only [X_X12_find, X_X12_find_0, true_and, hM.1]
        exact m_isUnit1 hM hm hu ho (br1 (m_isClass1 hM hm xS.nM h12 hc1 (br1 (m_rootOf hM hm xS hc1 hQ))))
      -- by the rows
      have rows : ∃ (w : Int32) (κ' ρ' : Mem), (∀ ρ1 (Q : Int32 → Mem → Prop), Q w (mg κ' ρ1) → X_X9_fetch_58 G Q (533 + 184 * u) (nI c) (nI (rt c)) z (mg κ ρ1)) ∧ (∀ κ1 (Q : Int32 → Mem → Prop), Q w (mg κ1 ρ') → X_X12_find_85 G Q 1282 (nI u) (nI c) z (nI (rt c)) (mg κ1 ρ)) ∧ Rel (nn + 1) κ' ρ' := by
        rcases rowCase xR (show rt c < 12 by omega) z with ⟨i, r, i1, r1, ⟨w1, w2, w3, w4, w5⟩, ez⟩ | ⟨q1, q2⟩
        · obtain ⟨f', d, x', y1, y2, y3, y4, y5, y6, y7, y8, y9, y10⟩ := xY r r1
          have i60 := (xR.1 (rt c) (by omega)).2
          have h720 := xR.le
          have ef : f' = rt c := (eI (by omega) (by omega)).mp (y2.symm.trans w1)
          subst ef
          rw [y4] at w3
          have zx : z = nI x' := ez.symm.trans y8
          have hxn := (xK (rt c) (by omega)).2.2
          cases hisa : isa (par ρ) d c
          · refine ⟨-1, κ, ρ, fun ρ1 Q hQ => ?_, fun κ1 Q hQ => ?_, h0.up⟩
            · simp (disch := omega) only [X_X9_fetch_57, X_X9_fetch_56, X_X9_fetch_99, X_X9_fetch_58, X_X9_fetch_0, X_X9_fetch, mI_c, mR_c, mJ_c, sI_c, sJ_c, sR_c, hL.1, hL.2.1, hL.2.2, hC.1, hC.2.1, hC.2.2.1, lT, lF, tT, tF, eF, pF, zT, m1F, vT, cI, true_and, and_true, true_implies, false_implies, not_false_eq_true, not_true_eq_false, forall_eq, implies_true]
              refine c_rowOf1 hL hC xR (by omega) i1 (w2.trans ez) (brF (mI1 (by omega)) ?_)
              simp (disch := omega) only [mI_c, mR_c, mJ_c, sI_c, sJ_c, sR_c, hL.1, hL.2.1, hL.2.2, hC.1, hC.2.1, hC.2.2.1, lT, lF, tT, tF, eF, pF, zT, m1F, vT, cI, true_and, and_true, true_implies, false_implies, not_false_eq_true, not_true_eq_false, forall_eq, implies_true, xS.r13, hT2.1, w3]
              exact c_isOf' hG hC xS y3 (by omega) (fun e => by rw [hisa] at e; cases e) (fun _ => br0 hQ)
            · simp (disch := omega) only [X_X12_find_16, X_X12_find_84, X_X12_find_83, X_X12_find_115, X_X12_find_85, X_X12_find_0, X_X12_find, hM.1, true_and]
              refine m_rowOf1 hM hm xR r1 w1 ez (brF (pI (by omega)) ?_)
              simp (disch := omega) only [mI_m, mR_m, mJ_m, sI_m, sJ_m, hM.1, hM.2, hm.1, hm.2, lT, lF, tT, tF, eF, pF, zT, m1F, vT, cI, true_and, and_true, true_implies, false_implies, not_false_eq_true, not_true_eq_false, forall_eq, implies_true, y4]
              exact m_isA0 hM hm xS.par h12 y3 (by omega) (fun e => by rw [hisa] at e; cases e) (fun _ => br0 hQ)
          · rcases j_meet hG hA hu ho (f := rt c) (x := x') (by omega) y6 y7 with ⟨k', us', κ'', ρ'', m1, m2, m3, m4, m5, m6, m7, -⟩ | ⟨m1, m6, m7⟩
            · obtain ⟨κ3, ρ3, l0, l1, hA3, -, l2, l3, -⟩ := j_load hG m4 hu m5 m1
              have o60 := (m4.2.2.2.2.2.2.2.1.op hu m5).1
              refine ⟨nI (100 * u + k'), κ3, ρ3, fun ρ1 Q hQ => ?_, fun κ1 Q hQ => ?_, Rel.up ⟨sc, n, mc, rt, hc, K, N, r0, us', hA3⟩⟩
              · simp (disch := omega) only [X_X9_fetch_57, X_X9_fetch_56, X_X9_fetch_99, X_X9_fetch_58, X_X9_fetch_0, X_X9_fetch, mI_c, mR_c, mJ_c, sI_c, sJ_c, sR_c, hL.1, hL.2.1, hL.2.2, hC.1, hC.2.1, hC.2.2.1, lT, lF, tT, tF, eF, pF, zT, m1F, vT, cI, true_and, and_true, true_implies, false_implies, not_false_eq_true, not_true_eq_false, forall_eq, implies_true]
                refine c_rowOf1 hL hC xR (by omega) i1 (w2.trans ez) (brF (mI1 (by omega)) ?_)
                simp (disch := omega) only [mI_c, mR_c, mJ_c, sI_c, sJ_c, sR_c, hL.1, hL.2.1, hL.2.2, hC.1, hC.2.1, hC.2.2.1, lT, lF, tT, tF, eF, pF, zT, m1F, vT, cI, true_and, and_true, true_implies, false_implies, not_false_eq_true, not_true_eq_false, forall_eq, implies_true, xS.r13, hT2.1, w3]
                refine c_isOf' hG hC xS y3 (by omega) (fun _ => br1 ?_) (fun e => by rw [hisa] at e; cases e)
                rw [zx]
                refine m6 _ _ (brF (by omega) (l0 _ _ ?_))
                simp (disch := omega) only [mI_c, hL.2.2, true_and, hA3.1.2.2 u k' hu (by omega)]
                exact hQ
              · simp (disch := omega) only [X_X12_find_16, X_X12_find_84, X_X12_find_83, X_X12_find_115, X_X12_find_85, X_X12_find_0, X_X12_find, hM.1, true_and]
                refine m_rowOf1 hM hm xR r1 w1 ez (brF (pI (by omega)) ?_)
                simp (disch := omega) only [mI_m, mR_m, mJ_m, sI_m, sJ_m, hM.1, hM.2, hm.1, hm.2, lT, lF, tT, tF, eF, pF, zT, m1F, vT, cI, true_and, and_true, true_implies, false_implies, not_false_eq_true, not_true_eq_false, forall_eq, implies_true, y4]
                refine m_isA0 hM hm xS.par h12 y3 (by omega) (fun _ => br1 ?_) (fun e => by rw [hisa] at e; cases e)
                rw [zx]
                exact m7 _ _ (brT (Int32.not_lt.mp (pI (by omega))) (l1 _ _ (m_numberOf hu (by omega) hQ)))
            · refine ⟨-2, κ, ρ, fun ρ1 Q hQ => ?_, fun κ1 Q hQ => ?_, h0.up⟩
              · simp (disch := omega) only [X_X9_fetch_57, X_X9_fetch_56, X_X9_fetch_99, X_X9_fetch_58, X_X9_fetch_0, X_X9_fetch, mI_c, mR_c, mJ_c, sI_c, sJ_c, sR_c, hL.1, hL.2.1, hL.2.2, hC.1, hC.2.1, hC.2.2.1, lT, lF, tT, tF, eF, pF, zT, m1F, vT, cI, true_and, and_true, true_implies, false_implies, not_false_eq_true, not_true_eq_false, forall_eq, implies_true]
                refine c_rowOf1 hL hC xR (by omega) i1 (w2.trans ez) (brF (mI1 (by omega)) ?_)
                simp (disch := omega) only [mI_c, mR_c, mJ_c, sI_c, sJ_c, sR_c, hL.1, hL.2.1, hL.2.2, hC.1, hC.2.1, hC.2.2.1, lT, lF, tT, tF, eF, pF, zT, m1F, vT, cI, true_and, and_true, true_implies, false_implies, not_false_eq_true, not_true_eq_false, forall_eq, implies_true, xS.r13, hT2.1, w3]
                refine c_isOf' hG hC xS y3 (by omega) (fun _ => br1 ?_) (fun e => by rw [hisa] at e; cases e)
                rw [zx]
                exact m6 _ _ (brT rfl hQ)
              · simp (disch := omega) only [X_X12_find_16, X_X12_find_84, X_X12_find_83, X_X12_find_115, X_X12_find_85, X_X12_find_0, X_X12_find, hM.1, true_and]
                refine m_rowOf1 hM hm xR r1 w1 ez (brF (pI (by omega)) ?_)
                simp (disch := omega) only [mI_m, mR_m, mJ_m, sI_m, sJ_m, hM.1, hM.2, hm.1, hm.2, lT, lF, tT, tF, eF, pF, zT, m1F, vT, cI, true_and, and_true, true_implies, false_implies, not_false_eq_true, not_true_eq_false, forall_eq, implies_true, y4]
                refine m_isA0 hM hm xS.par h12 y3 (by omega) (fun _ => br1 ?_) (fun e => by rw [hisa] at e; cases e)
                rw [zx]
                exact m7 _ _ (brF (by decide) hQ)
        · refine ⟨-1, κ, ρ, fun ρ1 Q hQ => ?_, fun κ1 Q hQ => ?_, h0.up⟩
          · simp (disch := omega) only [X_X9_fetch_57, X_X9_fetch_56, X_X9_fetch_99, X_X9_fetch_58, X_X9_fetch_0, X_X9_fetch, mI_c, mR_c, mJ_c, sI_c, sJ_c, sR_c, hL.1, hL.2.1, hL.2.2, hC.1, hC.2.1, hC.2.2.1, lT, lF, tT, tF, eF, pF, zT, m1F, vT, cI, true_and, and_true, true_implies, false_implies, not_false_eq_true, not_true_eq_false, forall_eq, implies_true]
            exact c_rowOf0 hL hC xR (by omega) q1 (brT rfl hQ)
          · simp (disch := omega) only [X_X12_find_16, X_X12_find_84, X_X12_find_83, X_X12_find_115, X_X12_find_85, X_X12_find_0, X_X12_find, hM.1, true_and]
            exact m_rowOf0 hM hm xR.2.1 xR.le q2 (brT m1_neg hQ)
      obtain ⟨w, κ', ρ', r58, r85, hR'⟩ := rows
      rcases objCase us ρ u (nI (rt c)) z with ⟨k, k1, k2, k3, k4⟩ | hno
      · obtain ⟨t1, -, -, t4, -, -⟩ := o5 k k1
        by_cases s0 : mI ρ 1319 (60 * u + k) = 0
        · refine ⟨w, κ', ρ', fun ρ1 Q hQ => cHead ρ1 Q ?_, fun κ1 Q hQ => mHead κ1 Q (m_objectOf1 hM hm o1 o3 hu k1 k2 k3 k4 (brF (pI (by omega)) ?_)), hR'⟩
          · simp (disch := omega) only [X_X9_fetch, X_X9_fetch_0, hL.2.1, true_and]
            refine c_thingFor1 hL hC xU hu ho k1 k2 k3 k4 (brF (by omega) ?_)
            simp (disch := omega) only [mI_c, hL.2.2, true_and, t1]
            exact brT s0 (r58 _ _ hQ)
          · simp (disch := omega) only [mI_m, mR_m, mJ_m, sI_m, sJ_m, hM.1, hM.2, hm.1, hm.2, lT, lF, tT, tF, eF, pF, zT, m1F, vT, cI, true_and, and_true, true_implies, false_implies, not_false_eq_true, not_true_eq_false, forall_eq, implies_true]
            exact brT s0 (r85 _ _ hQ)
        · have cH2 : ∀ (ρ1 : Mem) (Q : Int32 → Mem → Prop), X_X7_isLive G (fun w6 s5 => ((w6 = 0 → Q (-1) s5) ∧ (¬ w6 = 0 → gT G (mR s5 (533 + 184 * u) 0) = 6 ∧ gT G (mR s5 (mR s5 (533 + 184 * u) 0) 0) = 7 ∧ X_X6_isOf G (fun w10 s9 => ((w10 = 0 → Q (-1) s9) ∧ (¬ w10 = 0 → Q (mI s9 (537 + 184 * u + 3 * k) 0) s9))) (mR s5 (mR s5 (533 + 184 * u) 0) 0) (mI s5 (537 + 184 * u + 3 * k) 4) (nI c) s5))) (537 + 184 * u + 3 * k) (mg κ ρ1) → X_X11_find G Q 1 (nI u) (nI c) z (mg κ ρ1) := by
            intro ρ1 Q hQ
            refine cHead ρ1 Q ?_
            simp (disch := omega) only [X_X9_fetch, X_X9_fetch_0, X_X9_fetch_56, X_X9_fetch_57, hL.2.1, true_and]
            refine c_thingFor1 hL hC xU hu ho k1 k2 k3 k4 (brF (by omega) ?_)
            simp (disch := omega) only [mI_c, hL.2.2, true_and, t1]
            exact brF s0 hQ
          have mH2 : ∀ (κ1 : Mem) (Q : Int32 → Mem → Prop), X_X12_isLive G (fun w13 s12 => ((w13 = 0 → Q (-1) s12) ∧ (¬ w13 = 0 → gT G (mR s12 1282 45) = 100 ∧ vp_in (nI (60 * u + k)) (gL G (mR s12 1282 45)) ∧ X_X12_isA G (fun w17 s16 => ((w17 = 0 → Q (-1) s16) ∧ (¬ w17 = 0 → X_X12_numberOf G (fun w19 s18 => Q w19 s18) (nI (60 * u + k)) s16))) 1282 (0 : Int32) (mI s12 (mR s12 1282 45) (60 * u + k)) (nI c) s12))) 1282 (nI (60 * u + k)) (mg κ1 ρ) → X_X12_find G Q 1282 (nI u) (nI c) z (mg κ1 ρ) := by
            intro κ1 Q hQ
            refine mHead κ1 Q (m_objectOf1 hM hm o1 o3 hu k1 k2 k3 k4 (brF (pI (by omega)) ?_))
            simp (disch := omega) only [X_X12_find_83, X_X12_find_84, mI_m, mR_m, hM.2, hm.1, hm.2, lT, lF, tT, tF, eF, pF, zT, m1F, vT, cI, true_and, and_true, true_implies, false_implies, not_false_eq_true, not_true_eq_false, forall_eq, implies_true]
            exact brF s0 hQ
          by_cases hl : LiveS ρ (60 * u + k)
          · obtain ⟨f, f1, f2, d, d1, d2, d3, -⟩ := hA.liv hu ho k1 hl
            rw [d2] at t4
            cases hisa : isa (par ρ) d c
            · refine ⟨-1, κ, ρ, fun ρ1 Q hQ => cH2 ρ1 Q (c_isLive1 hL hu (by omega) (by rw [t1]; exact hl) (br1 ?_)), fun κ1 Q hQ => mH2 κ1 Q (m_isLive1 hM hm (by omega) hl (br1 ?_)), h0.up⟩
              · simp (disch := omega) only [mI_c, mR_c, mJ_c, sI_c, sJ_c, sR_c, hL.1, hL.2.1, hL.2.2, hC.1, hC.2.1, hC.2.2.1, lT, lF, tT, tF, eF, pF, zT, m1F, vT, cI, true_and, and_true, true_implies, false_implies, not_false_eq_true, not_true_eq_false, forall_eq, implies_true, xS.r13, hT2.1, t4]
                exact c_isOf' hG hC xS d1 (by omega) (fun e => by rw [hisa] at e; cases e) (fun _ => br0 hQ)
              · simp (disch := omega) only [mI_m, mR_m, mJ_m, sI_m, sJ_m, hM.1, hM.2, hm.1, hm.2, lT, lF, tT, tF, eF, pF, zT, m1F, vT, cI, true_and, and_true, true_implies, false_implies, not_false_eq_true, not_true_eq_false, forall_eq, implies_true, d2]
                exact m_isA0 hM hm xS.par h12 d1 (by omega) (fun e => by rw [hisa] at e; cases e) (fun _ => br0 hQ)
            · refine ⟨nI (100 * u + k), κ, ρ, fun ρ1 Q hQ => cH2 ρ1 Q (c_isLive1 hL hu (by omega) (by rw [t1]; exact hl) (br1 ?_)), fun κ1 Q hQ => mH2 κ1 Q (m_isLive1 hM hm (by omega) hl (br1 ?_)), h0.up⟩
              · simp (disch := omega) only [mI_c, mR_c, mJ_c, sI_c, sJ_c, sR_c, hL.1, hL.2.1, hL.2.2, hC.1, hC.2.1, hC.2.2.1, lT, lF, tT, tF, eF, pF, zT, m1F, vT, cI, true_and, and_true, true_implies, false_implies, not_false_eq_true, not_true_eq_false, forall_eq, implies_true, xS.r13, hT2.1, t4]
                refine c_isOf' hG hC xS d1 (by omega) (fun _ => br1 ?_) (fun e => by rw [hisa] at e; cases e)
                simp (disch := omega) only [mI_c, hNu u k hu (by omega)]
                exact hQ
              · simp (disch := omega) only [mI_m, mR_m, mJ_m, sI_m, sJ_m, hM.1, hM.2, hm.1, hm.2, lT, lF, tT, tF, eF, pF, zT, m1F, vT, cI, true_and, and_true, true_implies, false_implies, not_false_eq_true, not_true_eq_false, forall_eq, implies_true, d2]
                exact m_isA0 hM hm xS.par h12 d1 (by omega) (fun _ => br1 (m_numberOf hu (by omega) hQ)) (fun e => by rw [hisa] at e; cases e)
          · exact ⟨-1, κ, ρ, fun ρ1 Q hQ => cH2 ρ1 Q (c_isLive0 hL hu (by omega) (by rw [t1]; exact hl) (br0 hQ)), fun κ1 Q hQ => mH2 κ1 Q (m_isLive0 hM hm (by omega) hl (br0 hQ)), h0.up⟩
      · refine ⟨w, κ', ρ', fun ρ1 Q hQ => cHead ρ1 Q ?_, fun κ1 Q hQ => mHead κ1 Q (m_objectOf0 hM hm o1 o3 hu hno (brT m1_neg (r85 _ _ hQ))), hR'⟩
        simp (disch := omega) only [X_X9_fetch, X_X9_fetch_0, hL.2.1, true_and]
        exact c_thingFor0 hL hC xU hu ho hno (brT rfl (r58 _ _ hQ))
    · refine ⟨-1, κ, ρ, fun ρ1 Q hQ => ?_, fun κ1 Q hQ => ?_, h0.up⟩
      · simp (disch := omega) only [X_X11_find_30, X_X11_find_0, X_X11_find, true_and, hL.1]
        refine c_openUnit1 hL hC xU hu ho ?_
        simp (disch := omega) only [mI_c, mR_c, mJ_c, sI_c, sJ_c, sR_c, hL.1, hL.2.1, hL.2.2, hC.1, hC.2.1, hC.2.2.1, lT, lF, tT, tF, eF, pF, zT, m1F, vT, cI, true_and, and_true, true_implies, false_implies, not_false_eq_true, not_true_eq_false, forall_eq, implies_true, xS.r13, hT2.1]
        exact c_kindAt0 hG hC xS hy (brF (by omega) (brT rfl hQ))
      · simp (disch := omega) only [X_X12_find_16, X_X12_find_84, X_X12_find_83, X_X12_find_115, X_X12_find_85, X_X12_find_0, X_X12_find, true_and, hM.1]
        exact m_isUnit1 hM hm hu ho (br1 (m_isClass0 hM hm xS.nM h12 hy (br0 hQ)))
  · refine ⟨-1, κ, ρ, fun ρ1 Q hQ => ?_, fun κ1 Q hQ => ?_, h0.up⟩
    · simp (disch := omega) only [X_X11_find_30, X_X11_find_0, X_X11_find, true_and, hL.1]
      refine c_openUnit0 hL hC xU hx ?_
      simp (disch := omega) only [mI_c, mR_c, mJ_c, sI_c, sJ_c, sR_c, hL.1, hL.2.1, hL.2.2, hC.1, hC.2.1, hC.2.2.1, lT, lF, tT, tF, eF, pF, zT, m1F, vT, cI, true_and, and_true, true_implies, false_implies, not_false_eq_true, not_true_eq_false, forall_eq, implies_true, xS.r13, hT2.1]
      rcases clsCase n y with ⟨c, hc1, rfl⟩ | hy
      · exact c_kindAt1 hG hC xS hc1 hQ
      · exact c_kindAt0 hG hC xS hy hQ
    · simp (disch := omega) only [X_X12_find_16, X_X12_find_84, X_X12_find_83, X_X12_find_115, X_X12_find_85, X_X12_find_0, X_X12_find, true_and, hM.1]
      exact m_isUnit0 hM hm hx (br0 hQ)
end CALLS7
