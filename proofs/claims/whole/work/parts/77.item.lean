section ITEM
variable {G : Lay} {nn nn' sc n r0 : Nat} {mc rt hc K K' N us : Nat → Nat} {κ κ' ρ ρ' κ1 ρ1 : Mem} {u k : Nat}
theorem j_item (hG : Ly G) (hnn : nn ≤ 512) (h : Rel nn κ ρ) (o y z : Int32) : Jt nn (fun Q σ => X_X11_item G Q 1 o y z σ) (fun Q σ => X_X12_item G Q 1282 o y z σ) κ ρ := by
  obtain ⟨sc, n, mc, rt, hc, K, N, r0, us, hA⟩ := h
  have hL := hG.1
  have hM := hG.2.2.2
  rcases j_sz hG hA o y with ⟨u, k, c, m, tt, t, a', κ', ρ', ρ2, hu, hk, h60, rfl, rfl, ho, ec, hc1, hm1, htt, et, ht, e8, hA2, r1, r2, r3, l1, l2, l3, l4⟩ | ⟨κ', ρ', hA2, r1, r2⟩
  · obtain ⟨⟨hC, hm, hNu⟩, xT, xF, xS, xN, xK, xR, xU, xW, xD, xY, xZ⟩ := id hA2
    have hT2 := hG.s xS.s2
    have h12 := xS.le
    have h16 := xS.m16 hc1
    have hrt := xS.rt12 htt
    have e1 : (100 * u + k) / 100 = u := by omega
    have e6 : (60 * u + k) / 60 = u := by omega
    obtain ⟨g3, g4, g5⟩ := memT hG xS hc1 hm1
    obtain ⟨-, ⟨-, -, -, t4, -, t6⟩, -⟩ := hA2.th hu ho hk
    rw [ec] at t4
    have cH : ∀ (ρ1 : Mem) (Q : Int32 → Mem → Prop), ((z < 0 → Q (-1) (mg κ' ρ1)) ∧ (¬ z < 0 → ((nI t ≤ z → Q (-1) (mg κ' ρ1)) ∧ (¬ nI t ≤ z → X_X6_rootOf G (fun w14 s13 => gT G (mR s13 (533 + 184 * u) 3) = 100 ∧ vp_in z (gL G (mR s13 (533 + 184 * u) 3)) ∧ X_X9_numberMet G (fun w19 s18 => Q w19 s18) (533 + 184 * u) w14 (mI s13 (mR s13 (533 + 184 * u) 3) z.toNatClampNeg) s13) sc (nI tt) (mg κ' ρ1))))) → X_X11_item G Q 1 (nI (100 * u + k)) (nI m) z (mg κ ρ1) := by
      intro ρ1 Q hQ
      simp (disch := omega) only [X_X11_item_39, X_X11_item_0, X_X11_item, true_and, hL.1]
      refine r1 _ _ (c_thing1 hL hC xU hu ho hk (c_memberOf hG hC xS hu (by omega) t4 (c_memberAt1 hG hC xS hc1 hm1 ?_)))
      simp (disch := omega) only [mI_c, mR_c, mJ_c, sI_c, sJ_c, sR_c, hL.1, hL.2.1, hL.2.2, hC.1, hC.2.1, hC.2.2.1, nls, lT, lF, tT, tF, eF, pF, zT, e0F, m1F, vT, cI, nI_1, nI_add, pk_mul, true_and, and_true, true_implies, false_implies, not_false_eq_true, not_true_eq_false, bzT1, bzT0, m10, m1z, o0F, forall_eq, implies_true, if_true, if_false, dI, e1, g3, e8, xS.r13, hT2.1] at hQ ⊢
      refine ⟨hQ.1, fun e => ⟨(hQ.2 e).1, fun e2 => brF (by omega) ((hQ.2 e).2 e2)⟩⟩
    have mH : ∀ (κ1 : Mem) (Q : Int32 → Mem → Prop), ((z < 0 → Q (-1) (mg κ1 ρ2)) ∧ (¬ z < 0 → ((z < nI t → X_X12_rootOf G (fun w11 s10 => gT G (mR s10 1282 61) = 100 ∧ vp_in z (gL G (mR s10 1282 61)) ∧ X_X12_meet G (fun w15 s14 => ((0 ≤ w15 → X_X12_numberOf G (fun w17 s16 => X_X12_item_89 G Q w17 s16) w15 s14) ∧ (¬ 0 ≤ w15 → X_X12_item_89 G Q (-2 : Int32) s14))) 1282 (nI u) w11 (mI s10 (mR s10 1282 61) z.toNatClampNeg) s10) 1282 (nI tt) (mg κ1 ρ2)) ∧ (¬ z < nI t → Q (-1) (mg κ1 ρ2))))) → X_X12_item G Q 1282 (nI (100 * u + k)) (nI m) z (mg κ1 ρ) := by
      intro κ1 Q hQ
      simp (disch := omega) only [X_X12_item, X_X12_item_0, X_X12_item_34, true_and, hM.1]
      refine r2 _ _ (brF (pI (by omega)) (r3 _ _ (br1 ?_)))
      simp (disch := omega) only [mI_m, mR_m, hM.1, hM.2, hm.1, hm.2, nls, pk_mul, nI_add, dI, e6, cI, vT, true_and, l1, ec, et]
      exact hQ
    by_cases zn : z < 0
    · exact ⟨-1, κ', ρ2, fun ρ1 Q hQ => cH ρ1 Q (brT zn hQ), fun κ1 Q hQ => mH κ1 Q (brT zn hQ), Rel.up ⟨sc, n, mc, rt, hc, K, N, r0, us, hA2⟩⟩
    · obtain ⟨i, hi, rfl⟩ := nI_of zn
      by_cases hit : i < t
      · obtain ⟨x, x1, x2, ex⟩ := l4 i hit
        have hxn := (xK (rt tt) (by omega)).2.2
        have kx : mI κ' (536 + 184 * u) i = nI x := (l3 i hit).trans ex
        have mx : mI ρ2 1327 i = nI x := by rw [l2]; exact ex
        rcases j_meet hG hA2 hu ho (f := rt tt) (x := x) (by omega) x1 x2 with ⟨k', us', κ'', ρ'', m1, m2, m3, m4, m5, m6, m7, -⟩ | ⟨m1, m6, m7⟩
        · have o60 := (m4.2.2.2.2.2.2.2.1.op hu m5).1
          refine ⟨nI (100 * u + k'), κ'', ρ'', fun ρ1 Q hQ => cH ρ1 Q (brF zn (brF ?_ (c_rootOf1 hG hC xS htt ?_))), fun κ1 Q hQ => mH κ1 Q (brF zn (brT ?_ (m_rootOf hM hm xS htt ?_))), Rel.up ⟨sc, n, mc, rt, hc, K, N, r0, us', m4⟩⟩
          · rw [lI (by omega) (by omega)]; omega
          · simp (disch := omega) only [mI_c, mR_c, mJ_c, sI_c, sJ_c, sR_c, hL.1, hL.2.1, hL.2.2, hC.1, hC.2.1, hC.2.2.1, nls, lT, lF, tT, tF, eF, pF, zT, e0F, m1F, vT, cI, nI_1, nI_add, pk_mul, true_and, and_true, true_implies, false_implies, not_false_eq_true, not_true_eq_false, bzT1, bzT0, m10, m1z, o0F, forall_eq, implies_true, if_true, if_false, kx, X_X9_numberMet_20, X_X9_numberMet_0, X_X9_numberMet]
            refine m6 _ _ (brF (by omega) ?_)
            simp (disch := omega) only [mI_c, hL.2.2, true_and, m4.1.2.2 u k' hu (by omega)]
            exact hQ
          · rw [tI (by omega) (by omega)]; omega
          · simp (disch := omega) only [mI_m, mR_m, mJ_m, sI_m, sJ_m, hM.1, hM.2, hm.1, hm.2, lT, lF, tT, tF, eF, pF, zT, m1F, vT, cI, true_and, and_true, true_implies, false_implies, not_false_eq_true, not_true_eq_false, forall_eq, implies_true, mx]
            exact m7 _ _ (brT (Int32.not_lt.mp (pI (by omega))) (m_numberOf hu (by omega) hQ))
        · refine ⟨-2, κ', ρ2, fun ρ1 Q hQ => cH ρ1 Q (brF zn (brF ?_ (c_rootOf1 hG hC xS htt ?_))), fun κ1 Q hQ => mH κ1 Q (brF zn (brT ?_ (m_rootOf hM hm xS htt ?_))), Rel.up ⟨sc, n, mc, rt, hc, K, N, r0, us, hA2⟩⟩
          · rw [lI (by omega) (by omega)]; omega
          · simp (disch := omega) only [mI_c, mR_c, mJ_c, sI_c, sJ_c, sR_c, hL.1, hL.2.1, hL.2.2, hC.1, hC.2.1, hC.2.2.1, nls, lT, lF, tT, tF, eF, pF, zT, e0F, m1F, vT, cI, nI_1, nI_add, pk_mul, true_and, and_true, true_implies, false_implies, not_false_eq_true, not_true_eq_false, bzT1, bzT0, m10, m1z, o0F, forall_eq, implies_true, if_true, if_false, kx, X_X9_numberMet_20, X_X9_numberMet_0, X_X9_numberMet]
            exact m6 _ _ (brT rfl hQ)
          · rw [tI (by omega) (by omega)]; omega
          · simp (disch := omega) only [mI_m, mR_m, mJ_m, sI_m, sJ_m, hM.1, hM.2, hm.1, hm.2, lT, lF, tT, tF, eF, pF, zT, m1F, vT, cI, true_and, and_true, true_implies, false_implies, not_false_eq_true, not_true_eq_false, forall_eq, implies_true, mx]
            exact m7 _ _ (brF (by decide) hQ)
      · refine ⟨-1, κ', ρ2, fun ρ1 Q hQ => cH ρ1 Q (brF zn (brT ?_ hQ)), fun κ1 Q hQ => mH κ1 Q (brF zn (brF ?_ hQ)), Rel.up ⟨sc, n, mc, rt, hc, K, N, r0, us, hA2⟩⟩
        · rw [lI (by omega) (by omega)]; omega
        · rw [tI (by omega) (by omega)]; omega
  · obtain ⟨⟨hC, hm, hNu⟩, xT, xF, xS, xN, xK, xR, xU, xW, xD, xY, xZ⟩ := id hA2
    refine ⟨-1, κ', ρ', fun ρ1 Q hQ => ?_, fun κ1 Q hQ => ?_, Rel.up ⟨sc, n, mc, rt, hc, K, N, r0, us, hA2⟩⟩
    · simp (disch := omega) only [X_X11_item_39, X_X11_item_0, X_X11_item, true_and, hL.1]
      have fin : ∀ w7, ((z < 0 → Q (-1) (mg κ' ρ1)) ∧ (¬ z < 0 → ((-1 ≤ z → Q (-1) (mg κ' ρ1)) ∧ (¬ -1 ≤ z → w7)))) := by
        intro w7
        refine ⟨fun _ => hQ, fun e => ⟨fun _ => hQ, fun e2 => absurd ?_ e2⟩⟩
        exact Int32.le_trans (b := 0) (by decide) (Int32.not_lt.mp e)
      refine r1 _ _ ?_
      rcases thCase xU o with ⟨u, k, hu, ho, hk, h60, rfl⟩ | hno
      · refine c_thing1 hL hC xU hu ho hk ?_
        obtain ⟨-, ⟨-, -, -, t4, -, t6⟩, s, f, x, z1, z2, z3, z4, z5, z6, z7, z8, z9, z10⟩ := hA2.th hu ho hk
        refine c_memberOf hG hC xS hu (by omega) t4 ?_
        rcases z8 with e | ⟨c, c1, e⟩
        · rw [e]
          exact c_memberAt0 hG hC xS (Or.inl (noC_m1 n)) (fin _)
        · rw [e]
          rcases clsCase (mc c) y with ⟨m, hm1, rfl⟩ | hz
          · exact c_memberAt1 hG hC xS c1 hm1 (fin _)
          · exact c_memberAt0 hG hC xS (Or.inr ⟨c, c1, rfl, hz⟩) (fin _)
      · exact c_thing0 hL hC xU hno (c_memberOf0 (fin _))
    · simp (disch := omega) only [X_X12_item_34, X_X12_item_89, X_X12_item_0, X_X12_item, true_and, hM.1]
      rcases r2 with r2 | ⟨p, hp, r2, r3⟩
      · exact r2 _ _ (brT (by decide) hQ)
      · exact r2 _ _ (brF (pI (by omega)) (r3 _ _ (br0 hQ)))
end ITEM
