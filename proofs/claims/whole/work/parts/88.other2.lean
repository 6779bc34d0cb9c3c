section OTHER2
variable {G : Lay} {nn nn' sc n r0 r1 : Nat} {mc rt hc K K' N us : Nat → Nat} {κ κ' ρ ρ' κ1 ρ1 : Mem} {u k : Nat}
theorem c_rowOfN {Q : Int32 → Mem → Prop} {x : Int32} {σ : Mem} (q : Q (-1) σ) : X_X5_rowOf G Q 13 (-1) x σ := by
  simp only [X_X5_rowOf, X_X5_rowOf_0, X_X5_rowOf_10]
  exact brT m1_neg q
theorem j_other (hG : Ly G) (hnn : nn ≤ 512) (h : Rel nn κ ρ) (x y z v : Int32) : Jt nn (fun Q σ => X_X11_other G Q 1 x y z v σ) (fun Q σ => X_X12_other G Q 1282 x y z v σ) κ ρ := by
  have h0 := h
  obtain ⟨sc, n, mc, rt, hc, K, N, r0, us, hA⟩ := h
  have hL := hG.1
  have hM := hG.2.2.2
  obtain ⟨⟨hC, hm, hNu⟩, xT, xF, xS, xN, xK, xR, xU, xW, xD, xY, xZ⟩ := id hA
  have hT2 := hG.s xS.s2
  have hs2 := xS.s2
  have h12 := xS.le
  have h720 := xR.le
  have hRM := xY.m xR
  rcases clsCase n x with ⟨c, hc1, rfl⟩ | hx
  · have hrc := xS.rt12 hc1
    have mH0 : ∀ (κ1 : Mem) (Q : Int32 → Mem → Prop), X_X12_rowOf G (fun w7 s6 => ((w7 < 0 → X_X12_other_47 G Q s6) ∧ (¬ w7 < 0 → ((z < 0 → X_X12_other_47 G Q s6) ∧ (¬ z < 0 → gT G (mR s6 1282 29) = 100 ∧ vp_in w7 (gL G (mR s6 1282 29)) ∧ gT G (mR s6 1282 6) = 100 ∧ vp_in (mI s6 (mR s6 1282 29) w7.toNatClampNeg) (gL G (mR s6 1282 6)) ∧ ((z < (mI s6 (mR s6 1282 6) (mI s6 (mR s6 1282 29) w7.toNatClampNeg).toNatClampNeg) → gT G (mR s6 1282 9) = 100 ∧ vp_in (((16 : Int32) * (mI s6 (mR s6 1282 29) w7.toNatClampNeg)) + z) (gL G (mR s6 1282 9)) ∧ (((mI s6 (mR s6 1282 9) (((16 : Int32) * (mI s6 (mR s6 1282 29) w7.toNatClampNeg)) + z).toNatClampNeg) = (5 : Int32) → X_X12_other_118 G Q s6) ∧ (¬ (mI s6 (mR s6 1282 9) (((16 : Int32) * (mI s6 (mR s6 1282 29) w7.toNatClampNeg)) + z).toNatClampNeg) = (5 : Int32) → (((4 : Int32) ≤ (mI s6 (mR s6 1282 9) (((16 : Int32) * (mI s6 (mR s6 1282 29) w7.toNatClampNeg)) + z).toNatClampNeg) → X_X12_other_102 G Q 1282 y z v w7 (((16 : Int32) * (mI s6 (mR s6 1282 29) w7.toNatClampNeg)) + z) s6) ∧ (¬ (4 : Int32) ≤ (mI s6 (mR s6 1282 9) (((16 : Int32) * (mI s6 (mR s6 1282 29) w7.toNatClampNeg)) + z).toNatClampNeg) → X_X12_isValue G (fun w15 s14 => ((w15 = 0 → X_X12_other_118 G Q s14) ∧ (¬ w15 = 0 → X_X12_other_102 G Q 1282 y z v w7 (((16 : Int32) * (mI s6 (mR s6 1282 29) w7.toNatClampNeg)) + z) s14))) 1282 (mI s6 (mR s6 1282 29) w7.toNatClampNeg) z v s6))))) ∧ (¬ z < (mI s6 (mR s6 1282 6) (mI s6 (mR s6 1282 29) w7.toNatClampNeg).toNatClampNeg) → X_X12_other_47 G Q s6))))))) 1282 (nI (rt c)) y (mg κ1 ρ) → X_X12_other G Q 1282 (nI c) y z v (mg κ1 ρ) := by
      intro κ1 Q hh
      simp (disch := omega) only [X_X12_other, X_X12_other_0, hM.1, true_and]
      exact m_isClass1 hM hm xS.nM h12 hc1 (br1 (m_rootOf hM hm xS hc1 hh))
    rcases rowCase xR (show rt c < 12 by omega) y with ⟨i, r, i1, hr1, hrow, ez⟩ | ⟨q1, q2⟩
    · obtain ⟨w1, w2, w3, w4, w5⟩ := id hrow
      obtain ⟨f', d, x', y1, y2, y3, y4, y5, y6, y7, y8, y9, y10⟩ := xY r hr1
      have ef : f' = rt c := (eI (by omega) (by omega)).mp (y2.symm.trans w1)
      subst ef
      have i60 := (xR.1 (rt c) (by omega)).2
      have hxn := (xK (rt c) (by omega)).2.2
      have h16 := xS.m16 y3
      have hmc := (xS.cls y3).2.2.2.2.1
      have w3' := w3.trans y4
      have cH : ∀ (ρ1 : Mem) (Q : Int32 → Mem → Prop), X_X6_memberAt G (fun w13 s12 => ((w13 = 0 → X_X11_other_70 G Q s12) ∧ (¬ w13 = 0 → gT G w13 = 3 ∧ (((mI s12 w13 2) = (5 : Int32) → X_X11_other_70 G Q s12) ∧ (¬ (mI s12 w13 2) = (5 : Int32) → (((mI s12 w13 2) = (4 : Int32) → X_X11_other_93 G Q 1 y z v (nI (60 * rt c + i)) (nI d) s12) ∧ (¬ (mI s12 w13 2) = (4 : Int32) → X_X2_holds G (fun w16 s15 => ((w16 = 0 → (bz (0 : Int32) ∧ Q (0 : Int32) s15)) ∧ (¬ w16 = 0 → X_X11_other_93 G Q 1 y z v (nI (60 * rt c + i)) (nI d) s15))) w13 v s12))))))) sc (nI d) z (mg κ ρ1) → X_X11_other G Q 1 (nI c) y z v (mg κ ρ1) := by
        intro ρ1 Q hh
        simp (disch := omega) only [X_X11_other, X_X11_other_0, mR_c, hL.1, hC.1, xS.r13, hT2.1, true_and]
        refine c_rootOf1 hG hC xS hc1 (c_rowOf1 hL hC xR (by omega) i1 (w2.trans ez) (brF (mI1 (by omega)) ?_))
        simp (disch := omega) only [mI_c, mR_c, hL.1, hC.1, xS.r13, hT2.1, lT, lF, tT, tF, eF, pF, zT, m1F, vT, cI, true_and, and_true, true_implies, false_implies, not_false_eq_true, not_true_eq_false, forall_eq, implies_true, w3']
        exact hh
      rcases clsCase (mc d) z with ⟨m, hm1, rfl⟩ | hz
      · obtain ⟨g3, g4, g5⟩ := memT hG xS y3 hm1
        obtain ⟨q0, q1, q2, q3, q5, q8, q11⟩ := xS.mem y3 hm1
        obtain ⟨⟨kk, k5, ek, k3, ⟨ff, f6, ef, fk1, fk2, fk3⟩, kt⟩, -⟩ := xS.mw y3 hm1
        rw [ek] at q2
        have mH : ∀ (κ1 : Mem) (Q : Int32 → Mem → Prop), ((nI kk = 5 → Q 0 (mg κ1 ρ)) ∧ (¬ nI kk = 5 → ((4 ≤ nI kk → X_X12_other_102 G Q 1282 y (nI m) v (nI r) (nI (16 * d + m)) (mg κ1 ρ)) ∧ (¬ 4 ≤ nI kk → X_X12_isValue G (fun w15 s14 => ((w15 = 0 → Q 0 s14) ∧ (¬ w15 = 0 → X_X12_other_102 G Q 1282 y (nI m) v (nI r) (nI (16 * d + m)) s14))) 1282 (nI d) (nI m) v (mg κ1 ρ))))) → X_X12_other G Q 1282 (nI c) y (nI m) v (mg κ1 ρ) := by
          intro κ1 Q hh
          refine mH0 κ1 Q (m_rowOf1 hM hm xR hr1 w1 ez (brF (pI (by omega)) (brF (pI (by omega)) ?_)))
          simp (disch := omega) only [X_X12_other_118, show (16 : Int32) = nI 16 from rfl, pk_mul, nI_add, mI_m, mR_m, hM.1, hM.2, hm.1, hm.2, lT, lF, tT, tF, eF, pF, zT, m1F, vT, cI, true_and, and_true, true_implies, false_implies, not_false_eq_true, not_true_eq_false, forall_eq, implies_true, y4, hmc, ek, bzT0]
          exact hh
        by_cases h5 : kk = 5
        · subst h5
          refine ⟨0, κ, ρ, fun ρ1 Q hQ => cH ρ1 Q (c_memberAt1 hG hC xS y3 hm1 (brF (by omega) ⟨g3, ?_⟩)), fun κ1 Q hQ => mH κ1 Q (brT rfl hQ), h0.up⟩
          simp (disch := omega) only [mI_c, q2]
          exact brT rfl ⟨bz0, hQ⟩
        · have n5 : ¬ nI kk = 5 := fun e => h5 ((eI (b := 5) (by omega) (by decide)).mp e)
          -- the class, once the value fits
          have c93 : ∀ (ρ1 : Mem) (Q : Int32 → Mem → Prop), (rul r0 rt ρ (rt c) y d m v = -1 → Q 1 (mg (sI (sI κ 274 (16 * (60 * rt c + i) + m) v) 273 (60 * rt c + i) (mI κ 273 (60 * rt c + i) + 1)) ρ1)) → (¬ rul r0 rt ρ (rt c) y d m v = -1 → Q 0 (mg κ ρ1)) → X_X11_other_93 G Q 1 y (nI m) v (nI (60 * rt c + i)) (nI d) (mg κ ρ1) := by
            intro ρ1 Q a1 a0
            simp (disch := omega) only [X_X11_other_93, mR_c, hL.1, hC.1, true_and]
            refine c_brokenRule hG hC xS xR xY y3 y5 hm1 ⟨fun e => ?_, fun e => ⟨bz0, a0 e⟩⟩
            simp (disch := omega) only [mR_c, hL.1, hC.1, true_and]
            refine c_set hL hC (by omega) (by omega) ?_
            simp (disch := omega) only [mI_c, mR_c, sI_c, hL.1, hC.1, mR_sI, lT, lF, tT, tF, eF, pF, zT, m1F, vT, cI, true_and, and_true, true_implies, false_implies, not_false_eq_true, not_true_eq_false, forall_eq, implies_true, I_cl, bzT1]
            exact a1 e
          have cRun : ∀ (ρ1 : Mem) (Q : Int32 → Mem → Prop), (kk ≠ 4 → ¬ holdsB kk (mI ρ 1293 (16 * d + m)) v → Q 0 (mg κ ρ1)) → ((kk ≠ 4 → holdsB kk (mI ρ 1293 (16 * d + m)) v) → X_X11_other_93 G Q 1 y (nI m) v (nI (60 * rt c + i)) (nI d) (mg κ ρ1)) → X_X11_other G Q 1 (nI c) y (nI m) v (mg κ ρ1) := by
            intro ρ1 Q a0 a1
            refine cH ρ1 Q (c_memberAt1 hG hC xS y3 hm1 (brF (by omega) ⟨g3, ?_⟩))
            simp (disch := omega) only [mI_c, q2]
            refine brF n5 ⟨fun e => a1 (fun h => absurd ((eI (b := 4) (by omega) (by decide)).mp e) h), fun e => ?_⟩
            have h4 : kk ≠ 4 := fun h => e (by rw [h]; rfl)
            exact c_holds (by omega) g3 k5 q2 (fun h => br1 (a1 (fun _ => by rw [q5] at h; exact h))) (fun h => br0 ⟨bz0, a0 h4 (by rw [q5] at h; exact h)⟩)
          by_cases fit : kk ≠ 4 → holdsB kk (mI ρ 1293 (16 * d + m)) v
          · by_cases neg : kk = 4 ∧ v < 0
            · obtain ⟨rfl, hv⟩ := neg
              obtain ⟨t, ht, et, -⟩ := kt (by omega)
              have hrt := xS.rt12 ht
              have vn : ∀ j : Nat, j < 2147483648 → nI j ≠ v := fun j hj e => pI hj (by rw [e]; exact hv)
              have hbad : ¬ rul r0 rt ρ (rt c) y d m v = -1 := by
                have hU : ¬ bkU r0 ρ (rt c) y d m v := fun h => by
                  have h1 := h.1
                  rw [ef] at h1
                  have := fk2 rfl
                  have : ff = 0 ∨ ff = 2 ∨ ff = 4 ∨ ff = 6 := by omega
                  rcases this with rfl | rfl | rfl | rfl <;> exact h1 (by decide)
                have hLd : bkL r0 rt ρ (rt c) y d m v := ⟨ek, fun e => vn 0 (by decide) e.symm, t, by omega, et, fun h => by
                  rcases h with ⟨⟨-, h⟩, -⟩ | ⟨-, r', b1, b2, b3, -⟩
                  · rw [← ez, y8] at h
                    exact vn x' (by omega) h.symm
                  · obtain ⟨f3, d3, x3, v1, v2, v3, v4, v5, v6, v7, v8, -⟩ := xY r' b1
                    have := (xK f3 v1).2.2
                    exact vn x3 (by omega) (v8.symm.trans b3)⟩
                unfold rul
                rw [ifp_f (fun h => vn 0 (by decide) h.2.2.symm), ifp_f hU, ifp_t hLd]
                decide
              refine ⟨0, κ, ρ, fun ρ1 Q hQ => cRun ρ1 Q (fun h => absurd rfl h) (fun _ => c93 ρ1 Q (fun h => absurd h hbad) (fun _ => hQ)), fun κ1 Q hQ => mH κ1 Q (brF (by decide) (brT (by decide) ?_)), h0.up⟩
              simp (disch := omega) only [X_X12_other_102, X_X12_other_118, mI_m, mR_m, hM.1, hM.2, hm.1, hm.2, lT, lF, tT, tF, eF, pF, zT, m1F, vT, cI, true_and, and_true, true_implies, false_implies, not_false_eq_true, not_true_eq_false, forall_eq, implies_true, ek, bzT0]
              exact brT rfl (brF (fun e => Int32.not_lt.mpr e hv) hQ)
            · -- the reference, once the value fits
              have mRun : ∀ (κ1 : Mem) (Q : Int32 → Mem → Prop), X_X12_other_120 G Q 1282 y (nI m) v (nI r) (mg κ1 ρ) → X_X12_other G Q 1282 (nI c) y (nI m) v (mg κ1 ρ) := by
                intro κ1 Q hh
                refine mH κ1 Q (brF n5 ?_)
                have h102 : X_X12_other_102 G Q 1282 y (nI m) v (nI r) (nI (16 * d + m)) (mg κ1 ρ) := by
                  simp (disch := omega) only [X_X12_other_102, X_X12_other_118, mI_m, mR_m, hM.1, hM.2, hm.1, hm.2, lT, lF, tT, tF, eF, pF, zT, m1F, vT, cI, true_and, and_true, true_implies, false_implies, not_false_eq_true, not_true_eq_false, forall_eq, implies_true, ek, bzT0]
                  refine ⟨fun e => brT (Int32.not_lt.mp (fun hv => neg ⟨(eI (b := 4) (by omega) (by decide)).mp e, hv⟩)) hh, fun _ => hh⟩
                refine ⟨fun _ => h102, fun e => ?_⟩
                have h4 : kk ≠ 4 := fun h => e (by rw [h]; decide)
                exact m_isValue hM hm (by omega) (by omega) k5 ek (fun _ => br1 h102) (fun h => absurd (fit h4) h)
              have smv : Eqv sM ρ (sI ρ 1309 (16 * r + m) v) := Eqv.wI (by simp only [sM]; omega) _
              have stv : StM (sI ρ 1309 (16 * r + m) v) := hm.wI _ _ _
              have xSv : RelS sc n mc rt hc κ (sI ρ 1309 (16 * r + m) v) := xS.fr Eqv.rf smv
              have hRMv : RowsM n r0 (sI ρ 1309 (16 * r + m) v) := by
                refine ⟨?_, hRM.2.1, fun s s' a1 a2 a3 a4 => ?_, fun s hs => ?_⟩
                · rw [I_cl (by decide)]; exact hRM.1
                · simp (disch := omega) only [I_cl] at a3 a4; exact hRM.2.2.1 s s' a1 a2 a3 a4
                · rw [I_cl (by decide)]; exact hRM.2.2.2 s hs
              have ruv : ∀ q w, q < mc d → rul r0 rt (sI ρ 1309 (16 * r + m) v) (rt c) y d q w = rul r0 rt ρ (rt c) y d q w := by
                intro q w hq
                have key : ∀ s, s < r0 → ¬ (mI ρ 1305 s = nI (rt c) ∧ mI ρ 1306 s = y) → s < r0 ∧ mI (sI ρ 1309 (16 * r + m) v) 1305 s = mI ρ 1305 s ∧ mI (sI ρ 1309 (16 * r + m) v) 1306 s = mI ρ 1306 s ∧ mI (sI ρ 1309 (16 * r + m) v) 1307 s = mI ρ 1307 s ∧ mI (sI ρ 1309 (16 * r + m) v) 1309 (16 * s + q) = mI ρ 1309 (16 * s + q) ∧ ∃ d, d < n ∧ mI ρ 1307 s = nI d := fun s hs hn => by
                  refine ⟨hs, I_cl (by decide), I_cl (by decide), I_cl (by decide), ?_, hRM.2.2.2 s hs⟩
                  have : s ≠ r := fun e => hn (by rw [e]; exact ⟨w1, ez⟩)
                  rw [I_sl (by omega)]
                exact rul_eq xS smv y3 hq (by omega) key (fun s hs hn => key s hs (fun zz => hn (by rw [I_cl (by decide), I_cl (by decide)]; exact zz)))
              have oth : ∀ q, q < mc d → q ≠ m → rul r0 rt (sI ρ 1309 (16 * r + m) v) (rt c) y d q (mI (sI ρ 1309 (16 * r + m) v) 1309 (16 * r + q)) = -1 := by
                intro q hq hne
                rw [ruv q _ hq, I_sl (by omega)]
                exact (rule_iff xS hRM hr1 y3 hq w1 ez y4 (by omega)).mp (y10 q hq)
              have own : rul r0 rt (sI ρ 1309 (16 * r + m) v) (rt c) y d m (mI (sI ρ 1309 (16 * r + m) v) 1309 (16 * r + m)) = rul r0 rt ρ (rt c) y d m v := by
                rw [ruv m _ hm1, I_is]
              have l1309 : gL G 1309 = 11520 := by simp only [hM.2]
              have g1309 : gT G 1309 = 100 := by simp only [hM.2]
              have m120 : ∀ (κ1 : Mem) (Q : Int32 → Mem → Prop), X_X12_broken G (fun w10 s9 => ((w10 = 0 → gT G (mR s9 1282 30) = 100 ∧ vp_in (nI r) (gL G (mR s9 1282 30)) ∧ ∀ s13, s13 = sI s9 (mR s9 1282 30) r ((mI s9 (mR s9 1282 30) r) + (1 : Int32)) → (bz (1 : Int32) ∧ Q (1 : Int32) s13)) ∧ (¬ w10 = 0 → gT G (mR s9 1282 31) = 100 ∧ vp_in (nI (16 * r + m)) (gL G (mR s9 1282 31)) ∧ ∀ s16, s16 = sI s9 (mR s9 1282 31) (16 * r + m) (mI ρ 1309 (16 * r + m)) → (bz (0 : Int32) ∧ Q (0 : Int32) s16)))) 1282 (nI (rt c)) y (nI d) 1309 (nI (16 * r)) (mg κ1 (sI ρ 1309 (16 * r + m) v)) → X_X12_other_120 G Q 1282 y (nI m) v (nI r) (mg κ1 ρ) := by
                intro κ1 Q hh
                simp (disch := omega) only [X_X12_other_120, show (16 : Int32) = nI 16 from rfl, pk_mul, nI_add, mI_m, mR_m, sI_m, mR_sI, hM.1, hM.2, hm.1, hm.2, lT, lF, tT, tF, eF, pF, zT, m1F, vT, cI, true_and, and_true, true_implies, false_implies, not_false_eq_true, not_true_eq_false, forall_eq, implies_true, I_cl, w1, y4] at hh ⊢
                exact hh
              by_cases good : rul r0 rt ρ (rt c) y d m v = -1
              · refine ⟨1, _, _, fun ρ1 Q hQ => cRun ρ1 Q (fun h1 h2 => absurd (fit h1) h2) (fun _ => c93 ρ1 Q (fun _ => hQ) (fun h => absurd good h)), fun κ1 Q hQ => mRun κ1 Q (m120 κ1 Q (m_broken0 hG stv xSv hRMv y3 y5 (by decide) g1309 (by omega) (by omega) (fun _ _ => rfl) (fun q hq => ?_) (br0 ?_))), Rel.up ⟨sc, n, mc, rt, hc, K, N, r0, us, hA.rowv (v := v) (by omega) i1 hr1 hrow y4 y3 hm1 (by rw [ez]; exact good)⟩⟩
                · by_cases e : q = m
                  · subst e; rw [own]; exact good
                  · exact oth q hq e
                · simp (disch := omega) only [mI_m, mR_m, sI_m, mR_sI, hM.1, hM.2, hm.1, hm.2, lT, lF, tT, tF, eF, pF, zT, m1F, vT, cI, true_and, and_true, true_implies, false_implies, not_false_eq_true, not_true_eq_false, forall_eq, implies_true, I_cl, bzT1]
                  exact hQ
              · refine ⟨0, κ, sI (sI (sI (sI ρ 1309 (16 * r + m) v) 1282 57 (nI m)) 1282 58 (rul r0 rt ρ (rt c) y d m v)) 1309 (16 * r + m) (mI ρ 1309 (16 * r + m)), fun ρ1 Q hQ => cRun ρ1 Q (fun _ _ => hQ) (fun _ => c93 ρ1 Q (fun h => absurd h good) (fun _ => hQ)), fun κ1 Q hQ => mRun κ1 Q (m120 κ1 Q (m_broken1 (m0 := m) hG stv xSv hRMv y3 y5 hm1 (by decide) g1309 (by omega) (by omega) (fun _ _ => rfl) (by rw [own]; exact good) (fun q hq => oth q (by omega) (by omega)) (br1 ?_))), Rel.up ⟨sc, n, mc, rt, hc, K, N, r0, us, hA.fr hC ((((hm.wI _ _ _).wI _ _ _).wI _ _ _).wI _ _ _) Eqv.rf ?_ (Nat.le_refl _)⟩⟩
                · simp (disch := omega) only [own, mI_m, mR_m, sI_m, mR_sI, hM.1, hM.2, hm.1, hm.2, lT, lF, tT, tF, eF, pF, zT, m1F, vT, cI, true_and, and_true, true_implies, false_implies, not_false_eq_true, not_true_eq_false, forall_eq, implies_true, bzT0]
                  exact hQ
                · intro a j hs
                  refine ⟨?_, rfl, rfl⟩
                  by_cases e : a = 1309 ∧ j = 16 * r + m
                  · obtain ⟨rfl, rfl⟩ := e
                    rw [I_is]
                  · have e2 : ¬ (a = 1282 ∧ (j = 57 ∨ j = 58)) := by
                      rintro ⟨rfl, e2⟩
                      rcases hs with hh | hh | hh | hh | hh | hh | hh | hh
                      all_goals (simp only [tM, fM, sM, kM, rM, uM, wM, dM] at hh; omega)
                    rw [mI_sI, if_neg e, mI_sI, if_neg (by omega), mI_sI, if_neg (by omega), mI_sI, if_neg e]
          · have hn4 : kk ≠ 4 := fun e => fit (fun h => absurd e h)
            have hnh : ¬ holdsB kk (mI ρ 1293 (16 * d + m)) v := fun h => fit (fun _ => h)
            refine ⟨0, κ, ρ, fun ρ1 Q hQ => cRun ρ1 Q (fun _ _ => hQ) (fun h => absurd (h hn4) hnh), fun κ1 Q hQ => mH κ1 Q (brF n5 (brF (fun e => ?_) (m_isValue hM hm (by omega) (by omega) k5 ek (fun h => absurd h hnh) (fun _ => br0 hQ)))), h0.up⟩
            have := (lI (a := 4) (by decide) (by omega)).mp e
            omega
      · refine ⟨0, κ, ρ, fun ρ1 Q hQ => cH ρ1 Q (c_memberAt0 hG hC xS (Or.inr ⟨d, y3, rfl, hz⟩) (brT rfl ⟨bz0, hQ⟩)), fun κ1 Q hQ => mH0 κ1 Q (m_rowOf1 hM hm xR hr1 w1 ez (brF (pI (by omega)) ?_)), h0.up⟩
        rcases hz with hz | ⟨m, m1, m2, rfl⟩
        · exact brT hz ⟨bz0, hQ⟩
        · refine brF (pI m2) ?_
          simp (disch := omega) only [mI_m, mR_m, hM.1, hM.2, hm.1, hm.2, lT, lF, tT, tF, eF, pF, zT, m1F, vT, cI, true_and, and_true, true_implies, false_implies, not_false_eq_true, not_true_eq_false, forall_eq, implies_true, y4, hmc]
          exact ⟨bz0, hQ⟩
    · refine ⟨0, κ, ρ, fun ρ1 Q hQ => ?_, fun κ1 Q hQ => mH0 κ1 Q (m_rowOf0 hM hm xR.2.1 h720 q2 (brT m1_neg ⟨bz0, hQ⟩)), h0.up⟩
      simp (disch := omega) only [X_X11_other, X_X11_other_0, mR_c, hL.1, hC.1, xS.r13, hT2.1, true_and]
      exact c_rootOf1 hG hC xS hc1 (c_rowOf0 hL hC xR (by omega) q1 (brT rfl ⟨bz0, hQ⟩))
  · refine ⟨0, κ, ρ, fun ρ1 Q hQ => ?_, fun κ1 Q hQ => ?_, h0.up⟩
    · simp (disch := omega) only [X_X11_other, X_X11_other_0, mR_c, hL.1, hC.1, xS.r13, hT2.1, true_and]
      exact c_rootOf0 hG hC xS hx (c_rowOfN (brT rfl ⟨bz0, hQ⟩))
    · simp (disch := omega) only [X_X12_other_47, X_X12_other_118, X_X12_other_120, X_X12_other_102, X_X12_other_0, X_X12_other, hM.1, true_and]
      exact m_isClass0 hM hm xS.nM h12 hx (br0 ⟨bz0, hQ⟩)
end OTHER2
