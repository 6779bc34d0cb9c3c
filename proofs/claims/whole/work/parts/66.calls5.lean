section CALLS5
variable {G : Lay} {nn nn' sc n r0 : Nat} {mc rt hc K K' N us : Nat → Nat} {κ κ' ρ ρ' κ1 ρ1 : Mem} {u k : Nat}
theorem m_numberOf {Q : Int32 → Mem → Prop} (hu : u < 4) (hk : k < 60) {σ : Mem} (q : Q (nI (100 * u + k)) σ) : X_X12_numberOf G Q (nI (60 * u + k)) σ := by
  have e1 : (60 * u + k) / 60 = u := by omega
  have e2 : 60 * u + k - u * 60 = k := by omega
  simp (disch := omega) only [X_X12_numberOf_0, X_X12_numberOf, nls, dI, e1, pk_mul, pk_sub, e2, nI_add]
  exact q
theorem isa_rt (hS : RelS sc n mc rt hc κ ρ) {d : Nat} : ∀ c, c < n → isa (par ρ) c d = true → rt c = rt d := by
  intro c
  induction c using Nat.strongRecOn with
  | _ c ih =>
    intro h1 hi
    by_cases hd : c = d
    · rw [hd]
    · rcases hS.hei h1 with ⟨e1, e2⟩ | ⟨p, e1, e2, e3, -⟩
      · rw [isa_root e1 hd] at hi; cases hi
      · rw [isa_up hS.par hS.le h1 e1 e2 hd] at hi
        rw [e3]
        exact ih p e1 (by omega) hi
theorem j_value (hG : Ly G) (hnn : nn ≤ 512) (h : Rel nn κ ρ) (o y : Int32) : Jt nn (fun Q σ => X_X11_value G Q 1 o y σ) (fun Q σ => X_X12_value G Q 1282 o y σ) κ ρ := by
  obtain ⟨sc, n, mc, rt, hc, K, N, r0, us, hA⟩ := h
  have hL := hG.1
  have hM := hG.2.2.2
  obtain ⟨κ', ρ', hA', hj⟩ := j_live hG hA o
  have hR' : Rel (nn + 1) κ' ρ' := Rel.up ⟨sc, n, mc, rt, hc, K, N, r0, us, hA'⟩
  obtain ⟨⟨hC, hm, hNu⟩, xT, xF, xS, xN, xK, xR, xU, xW, xD, xY, xZ⟩ := id hA'
  have hT2 := hG.s xS.s2
  rcases hj with ⟨u, k, hu, hk, h60, ho, rfl, hl, c0, d0, -⟩ | ⟨c0, d0⟩
  · obtain ⟨f, f1, f2, c, c1, c2, c3, c4, c5⟩ := hA'.liv hu ho hk hl
    obtain ⟨-, ⟨-, -, -, t4, -, t6⟩, -⟩ := hA'.th hu ho hk
    rw [c2] at t4
    have h12 := xS.le
    have h16 := xS.m16 c1
    have hmc := (xS.cls c1).2.2.2.2.1
    have e1 : (100 * u + k) / 100 = u := by omega
    have e6 : (60 * u + k) / 60 = u := by omega
    rcases clsCase (mc c) y with ⟨m, hm1, rfl⟩ | hz
    · obtain ⟨g3, g4, g5⟩ := memT hG xS c1 hm1
      obtain ⟨q0, q1, q2, q3, q5, q8, q11⟩ := xS.mem c1 hm1
      obtain ⟨⟨kk, k5, ek, k3, -, kt⟩, -⟩ := xS.mw c1 hm1
      rw [ek] at q2 q8
      by_cases h5 : kk = 5
      · subst h5
        refine ⟨-9223372036854775808, κ', ρ', fun ρ1 Q hQ => ?_, fun κ1 Q hQ => ?_, hR'⟩
        · simp (disch := omega) only [X_X11_value_32, X_X11_value_0, X_X11_value, true_and, hL.1]
          refine c0 _ _ (c_memberOf hG hC xS hu (by omega) t4 (c_memberAt1 hG hC xS c1 hm1 (brF (by omega) (brF (by omega) ?_))))
          simp (disch := omega) only [mI_c, g3, q2, true_and]
          exact brT rfl hQ
        · simp (disch := omega) only [X_X12_value_29, X_X12_value_138, X_X12_value_0, X_X12_value, true_and, hM.1]
          refine d0 _ _ (brF (pI (by omega)) (brF (pI (by omega)) ?_))
          simp (disch := omega) only [mI_m, mR_m, mJ_m, sI_m, sJ_m, hM.1, hM.2, hm.1, hm.2, nls, lT, lF, tT, tF, eF, pF, zT, e0F, m1F, vT, cI, nI_1, nI_add, pk_mul, true_and, and_true, true_implies, false_implies, not_false_eq_true, not_true_eq_false, bzT1, bzT0, m10, m1z, o0F, forall_eq, implies_true, if_true, if_false, c2, hmc, ek]
          exact hQ
      · by_cases h4 : kk = 4
        · subst h4
          obtain ⟨t, ht, et, -⟩ := kt (by omega)
          rw [et] at q8
          have q8' := q8 (Int32.le_refl _)
          rcases c5 m hm1 ek with v0 | ⟨x, t', ht', et', x1, x2, v1⟩
          · refine ⟨-1, κ', ρ', fun ρ1 Q hQ => ?_, fun κ1 Q hQ => ?_, hR'⟩
            · simp (disch := omega) only [X_X11_value_32, X_X11_value_0, X_X11_value, true_and, hL.1]
              refine c0 _ _ (c_memberOf hG hC xS hu (by omega) t4 (c_memberAt1 hG hC xS c1 hm1 (brF (by omega) (brF (by omega) ?_))))
              simp (disch := omega) only [mI_c, mR_c, mJ_c, sI_c, sJ_c, sR_c, hL.1, hL.2.1, hL.2.2, hC.1, hC.2.1, hC.2.2.1, nls, lT, lF, tT, tF, eF, pF, zT, e0F, m1F, vT, cI, nI_1, nI_add, pk_mul, true_and, and_true, true_implies, false_implies, not_false_eq_true, not_true_eq_false, bzT1, bzT0, m10, m1z, o0F, forall_eq, implies_true, if_true, if_false, q2, (t6 m (by omega)).1, v0, g3]
              exact hQ
            · simp (disch := omega) only [X_X12_value_29, X_X12_value_138, X_X12_value_0, X_X12_value, true_and, hM.1]
              refine d0 _ _ (brF (pI (by omega)) (brF (pI (by omega)) ?_))
              simp (disch := omega) only [mI_m, mR_m, mJ_m, sI_m, sJ_m, hM.1, hM.2, hm.1, hm.2, nls, lT, lF, tT, tF, eF, pF, zT, e0F, m1F, vT, cI, nI_1, nI_add, pk_mul, true_and, and_true, true_implies, false_implies, not_false_eq_true, not_true_eq_false, bzT1, bzT0, m10, m1z, o0F, forall_eq, implies_true, if_true, if_false, c2, hmc, ek, v0]
              exact hQ
          · have ett : t' = t := (eI (by omega) (by omega)).mp (et'.symm.trans et)
            subst ett
            have hrt := xS.rt12 ht
            have hxn := (xK (rt t') (by omega)).2.2
            rcases j_meet hG hA' hu ho (f := rt t') (x := x) (by omega) x1 x2 with ⟨k', us', κ'', ρ'', m1, m2, m3, m4, m5, m6, m7, -⟩ | ⟨m1, m6, m7⟩
            · have o60 := (m4.2.2.2.2.2.2.2.1.op hu m5).1
              refine ⟨(nI (100 * u + k')).toInt64, κ'', ρ'', fun ρ1 Q hQ => ?_, fun κ1 Q hQ => ?_, Rel.up ⟨sc, n, mc, rt, hc, K, N, r0, us', m4⟩⟩
              · simp (disch := omega) only [X_X11_value_32, X_X11_value_0, X_X11_value, true_and, hL.1]
                refine c0 _ _ (c_memberOf hG hC xS hu (by omega) t4 (c_memberAt1 hG hC xS c1 hm1 (brF (by omega) (brF (by omega) ?_))))
                simp (disch := omega) only [mI_c, mR_c, mJ_c, sI_c, sJ_c, sR_c, hL.1, hL.2.1, hL.2.2, hC.1, hC.2.1, hC.2.2.1, nls, lT, lF, tT, tF, eF, pF, zT, e0F, m1F, vT, cI, nI_1, nI_add, pk_mul, true_and, and_true, true_implies, false_implies, not_false_eq_true, not_true_eq_false, bzT1, bzT0, m10, m1z, o0F, forall_eq, implies_true, if_true, if_false, dI, e1, q2, q8', (t6 m (by omega)).1, v1, g3, xS.r13, hT2.1]
                refine c_rootOf1 hG hC xS ht ?_
                simp (disch := omega) only [mI_c, mR_c, mJ_c, sI_c, sJ_c, sR_c, hL.1, hL.2.1, hL.2.2, hC.1, hC.2.1, hC.2.2.1, nls, lT, lF, tT, tF, eF, pF, zT, e0F, m1F, vT, cI, nI_1, nI_add, pk_mul, true_and, and_true, true_implies, false_implies, not_false_eq_true, not_true_eq_false, bzT1, bzT0, m10, m1z, o0F, forall_eq, implies_true, if_true, if_false, (t6 m (by omega)).1, v1, X_X9_numberMet_20, X_X9_numberMet_0, X_X9_numberMet]
                refine m6 _ _ (brF (by omega) ?_)
                simp (disch := omega) only [mI_c, hL.2.2, true_and, m4.1.2.2 u k' hu (by omega)]
                exact hQ
              · simp (disch := omega) only [X_X12_value_29, X_X12_value_138, X_X12_value_0, X_X12_value, true_and, hM.1]
                refine d0 _ _ (brF (pI (by omega)) (brF (pI (by omega)) ?_))
                simp (disch := omega) only [mI_m, mR_m, mJ_m, sI_m, sJ_m, hM.1, hM.2, hm.1, hm.2, nls, lT, lF, tT, tF, eF, pF, zT, e0F, m1F, vT, cI, nI_1, nI_add, pk_mul, true_and, and_true, true_implies, false_implies, not_false_eq_true, not_true_eq_false, bzT1, bzT0, m10, m1z, o0F, forall_eq, implies_true, if_true, if_false, dI, e6, c2, hmc, ek, et, v1]
                exact m_rootOf hM hm xS ht (m7 _ _ (brT (Int32.not_lt.mp (pI (by omega))) (m_numberOf hu (by omega) hQ)))
            · refine ⟨-2, κ', ρ', fun ρ1 Q hQ => ?_, fun κ1 Q hQ => ?_, hR'⟩
              · simp (disch := omega) only [X_X11_value_32, X_X11_value_0, X_X11_value, true_and, hL.1]
                refine c0 _ _ (c_memberOf hG hC xS hu (by omega) t4 (c_memberAt1 hG hC xS c1 hm1 (brF (by omega) (brF (by omega) ?_))))
                simp (disch := omega) only [mI_c, mR_c, mJ_c, sI_c, sJ_c, sR_c, hL.1, hL.2.1, hL.2.2, hC.1, hC.2.1, hC.2.2.1, nls, lT, lF, tT, tF, eF, pF, zT, e0F, m1F, vT, cI, nI_1, nI_add, pk_mul, true_and, and_true, true_implies, false_implies, not_false_eq_true, not_true_eq_false, bzT1, bzT0, m10, m1z, o0F, forall_eq, implies_true, if_true, if_false, dI, e1, q2, q8', (t6 m (by omega)).1, v1, g3, xS.r13, hT2.1]
                refine c_rootOf1 hG hC xS ht ?_
                simp (disch := omega) only [mI_c, mR_c, mJ_c, sI_c, sJ_c, sR_c, hL.1, hL.2.1, hL.2.2, hC.1, hC.2.1, hC.2.2.1, nls, lT, lF, tT, tF, eF, pF, zT, e0F, m1F, vT, cI, nI_1, nI_add, pk_mul, true_and, and_true, true_implies, false_implies, not_false_eq_true, not_true_eq_false, bzT1, bzT0, m10, m1z, o0F, forall_eq, implies_true, if_true, if_false, (t6 m (by omega)).1, v1, X_X9_numberMet_20, X_X9_numberMet_0, X_X9_numberMet]
                exact m6 _ _ (brT rfl hQ)
              · simp (disch := omega) only [X_X12_value_29, X_X12_value_138, X_X12_value_0, X_X12_value, true_and, hM.1]
                refine d0 _ _ (brF (pI (by omega)) (brF (pI (by omega)) ?_))
                simp (disch := omega) only [mI_m, mR_m, mJ_m, sI_m, sJ_m, hM.1, hM.2, hm.1, hm.2, nls, lT, lF, tT, tF, eF, pF, zT, e0F, m1F, vT, cI, nI_1, nI_add, pk_mul, true_and, and_true, true_implies, false_implies, not_false_eq_true, not_true_eq_false, bzT1, bzT0, m10, m1z, o0F, forall_eq, implies_true, if_true, if_false, dI, e6, c2, hmc, ek, et, v1]
                exact m_rootOf hM hm xS ht (m7 _ _ (brF (by decide) hQ))
        · refine ⟨(mI ρ' 1324 (16 * (60 * u + k) + m)).toInt64, κ', ρ', fun ρ1 Q hQ => ?_, fun κ1 Q hQ => ?_, hR'⟩
          · simp (disch := omega) only [X_X11_value_32, X_X11_value_0, X_X11_value, true_and, hL.1]
            refine c0 _ _ (c_memberOf hG hC xS hu (by omega) t4 (c_memberAt1 hG hC xS c1 hm1 (brF (by omega) (brF (by omega) ?_))))
            simp (disch := omega) only [mI_c, mR_c, mJ_c, sI_c, sJ_c, sR_c, hL.1, hL.2.1, hL.2.2, hC.1, hC.2.1, hC.2.2.1, nls, lT, lF, tT, tF, eF, pF, zT, e0F, m1F, vT, cI, nI_1, nI_add, pk_mul, true_and, and_true, true_implies, false_implies, not_false_eq_true, not_true_eq_false, bzT1, bzT0, m10, m1z, o0F, forall_eq, implies_true, if_true, if_false, q2, (t6 m (by omega)).1, g3]
            exact hQ
          · simp (disch := omega) only [X_X12_value_29, X_X12_value_138, X_X12_value_0, X_X12_value, true_and, hM.1]
            refine d0 _ _ (brF (pI (by omega)) (brF (pI (by omega)) ?_))
            simp (disch := omega) only [mI_m, mR_m, mJ_m, sI_m, sJ_m, hM.1, hM.2, hm.1, hm.2, nls, lT, lF, tT, tF, eF, pF, zT, e0F, m1F, vT, cI, nI_1, nI_add, pk_mul, true_and, and_true, true_implies, false_implies, not_false_eq_true, not_true_eq_false, bzT1, bzT0, m10, m1z, o0F, forall_eq, implies_true, if_true, if_false, c2, hmc, ek]
            exact hQ
    · refine ⟨-9223372036854775808, κ', ρ', fun ρ1 Q hQ => ?_, fun κ1 Q hQ => ?_, hR'⟩
      · simp (disch := omega) only [X_X11_value_32, X_X11_value_0, X_X11_value, true_and, hL.1]
        exact c0 _ _ (c_memberOf hG hC xS hu (by omega) t4 (c_memberAt0 hG hC xS (Or.inr ⟨c, c1, rfl, hz⟩) (brF (by omega) (brT rfl hQ))))
      · simp (disch := omega) only [X_X12_value_29, X_X12_value_138, X_X12_value_0, X_X12_value, true_and, hM.1]
        refine d0 _ _ (brF (pI (by omega)) ?_)
        rcases hz with hz | ⟨m, m1, m2, rfl⟩
        · exact brT hz hQ
        · refine brF (pI m2) ?_
          simp (disch := omega) only [mI_m, mR_m, mJ_m, sI_m, sJ_m, hM.1, hM.2, hm.1, hm.2, lT, lF, tT, tF, eF, pF, zT, m1F, vT, cI, true_and, and_true, true_implies, false_implies, not_false_eq_true, not_true_eq_false, forall_eq, implies_true, c2, hmc]
          exact hQ
  · refine ⟨-9223372036854775808, κ', ρ', fun ρ1 Q hQ => ?_, fun κ1 Q hQ => ?_, hR'⟩
    · simp (disch := omega) only [X_X11_value_32, X_X11_value_0, X_X11_value, true_and, hL.1]
      exact c0 _ _ (c_memberOf0 (brT (by trivial) hQ))
    · simp (disch := omega) only [X_X12_value_29, X_X12_value_138, X_X12_value_0, X_X12_value, true_and, hM.1]
      exact d0 _ _ (brT (by decide) hQ)
end CALLS5
