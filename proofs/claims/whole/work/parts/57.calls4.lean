section CALLS4
variable {G : Lay} {nn sc n r0 : Nat} {mc rt hc K N us : Nat → Nat} {κ ρ κ1 ρ1 : Mem}
theorem j_end (hG : Ly G) (h : Rel nn κ ρ) (x : Int32) : Jt nn (fun Q σ => X_X11_end G Q 1 x σ) (fun Q σ => X_X12_end G Q 1282 x σ) κ ρ := by
  have h0 := h
  obtain ⟨sc, n, mc, rt, hc, K, N, r0, us, hA⟩ := h
  obtain ⟨⟨hC, hm, -⟩, ⟨z, t1, t2, t3, t4⟩, hF, hS, -⟩ := id hA
  have hL := hG.1
  have hM := hG.2.2.2
  have hs2 := hS.s2
  rcases iI x with hx | ⟨i, hi, rfl⟩
  · refine ⟨-1, κ, ρ, fun ρ1 Q hQ => ?_, fun κ1 Q hQ => ?_, h0.up⟩
    · simp (disch := omega) only [X_X11_end_12, X_X11_end_0, X_X11_end, mI_c, mR_c, mJ_c, sI_c, sJ_c, sR_c, hL.1, hL.2.1, hL.2.2, hC.1, hC.2.1, hC.2.2.1, lT, lF, tT, tF, eF, pF, zT, m1F, vT, cI, true_and, and_true, true_implies, false_implies, not_false_eq_true, not_true_eq_false, forall_eq, implies_true, hx]
      exact hQ
    · simp (disch := omega) only [X_X12_end_12, X_X12_end_0, X_X12_end, mI_m, mR_m, mJ_m, sI_m, sJ_m, hM.1, hM.2, hm.1, hm.2, lT, lF, tT, tF, eF, pF, zT, m1F, vT, cI, true_and, and_true, true_implies, false_implies, not_false_eq_true, not_true_eq_false, forall_eq, implies_true, hx]
      exact hQ
  · by_cases hi2 : i ≤ z
    · refine ⟨nI i, sI κ 1 1 (nI i), sI ρ 1282 1 (nI i), fun ρ1 Q hQ => ?_, fun κ1 Q hQ => ?_, ?_⟩
      · simp (disch := omega) only [X_X11_end_12, X_X11_end_0, X_X11_end, mI_c, mR_c, mJ_c, sI_c, sJ_c, sR_c, hL.1, hL.2.1, hL.2.2, hC.1, hC.2.1, hC.2.2.1, lT, lF, tT, tF, eF, pF, zT, m1F, vT, cI, true_and, and_true, true_implies, false_implies, not_false_eq_true, not_true_eq_false, forall_eq, implies_true, t2]
        exact hQ
      · simp (disch := omega) only [X_X12_end_12, X_X12_end_0, X_X12_end, mI_m, mR_m, mJ_m, sI_m, sJ_m, hM.1, hM.2, hm.1, hm.2, lT, lF, tT, tF, eF, pF, zT, m1F, vT, cI, true_and, and_true, true_implies, false_implies, not_false_eq_true, not_true_eq_false, forall_eq, implies_true, t3]
        exact hQ
      · refine ⟨sc, n, mc, rt, hc, K, N, r0, us, hA.fr_T (hC.wI _ _ _) (hm.wI _ _ _) (Eqv.wI (by
    intro hh
    rcases hh with hh | hh | hh | hh | hh | hh | hh | hh
    all_goals first | (obtain ⟨u', hu', hh | ⟨j', hj', hh⟩⟩ := hh <;> omega) | (obtain ⟨u', j', hu', hj', e1', e2'⟩ := hh <;> omega) | (simp only [tC, fC, sCc, kC, rC, wC, dC, tM, fM, sM, kM, rM, uM, wM, dM] at hh; omega)) _) (Eqv.wI (by
    intro hh
    rcases hh with hh | hh | hh | hh | hh | hh | hh
    all_goals first | (obtain ⟨u', hu', hh | ⟨j', hj', hh⟩⟩ := hh <;> omega) | (obtain ⟨u', j', hu', hj', e1', e2'⟩ := hh <;> omega) | (simp only [tC, fC, sCc, kC, rC, wC, dC, tM, fM, sM, kM, rM, uM, wM, dM] at hh; omega)) _) (Nat.le_succ _) ⟨i, by omega, ?_, ?_, fun k hk => ?_⟩⟩
        · rw [I_is]
        · rw [I_is]
        · rw [I_cl (by decide), I_cl (by decide)]
          exact t4 k (by omega)
    · refine ⟨-1, κ, ρ, fun ρ1 Q hQ => ?_, fun κ1 Q hQ => ?_, h0.up⟩
      · simp (disch := omega) only [X_X11_end_12, X_X11_end_0, X_X11_end, mI_c, mR_c, mJ_c, sI_c, sJ_c, sR_c, hL.1, hL.2.1, hL.2.2, hC.1, hC.2.1, hC.2.2.1, lT, lF, tT, tF, eF, pF, zT, m1F, vT, cI, true_and, and_true, true_implies, false_implies, not_false_eq_true, not_true_eq_false, forall_eq, implies_true, t2]
        exact hQ
      · simp (disch := omega) only [X_X12_end_12, X_X12_end_0, X_X12_end, mI_m, mR_m, mJ_m, sI_m, sJ_m, hM.1, hM.2, hm.1, hm.2, lT, lF, tT, tF, eF, pF, zT, m1F, vT, cI, true_and, and_true, true_implies, false_implies, not_false_eq_true, not_true_eq_false, forall_eq, implies_true, t3]
        exact hQ
/-! counting -/
def sumF (N : Nat → Nat) : Nat → Nat
  | 0 => 0
  | i + 1 => sumF N i + N i
theorem sumF_12 (N : Nat → Nat) : sumF N 12 = sum12 N := by simp only [sumF, sum12, Nat.zero_add]
def opF (ρ : Mem) : Nat → Nat
  | 0 => 0
  | u + 1 => opF ρ u + if mI ρ 1316 u = 0 then 0 else 1
theorem c_total (hL : LyC G) (hC : StC κ) (hN : ∀ f, f < 12 → mI κ 270 f = nI (N f) ∧ N f ≤ 60) {Q : Int32 → Mem → Prop} (k : Q (nI (sum12 N)) (mg κ ρ1)) : X_X5_total G Q 13 (mg κ ρ1) := by
  unfold X_X5_total X_X5_total_0 X_X5_total_4
  refine Lw.nat 12 (fun i x => x = (nI (sumF N i), nI i, mg κ ρ1)) ?_ 0 (by omega) _ rfl
  rintro K' i x hi rfl hk
  by_cases h : i < 12
  · simp (disch := omega) only [X_X5_total_4_s, nls, lT, lF, tT, tF, eF, pF, zT, e0F, m1F, vT, cI, nI_1, nI_add, pk_mul, true_and, and_true, true_implies, false_implies, not_false_eq_true, not_true_eq_false, bzT1, bzT0, m10, m1z, o0F, forall_eq, implies_true, if_true, if_false, mI_c, mR_c, hL.1, hC.1, (hN i h).1]
    exact hk _ h rfl
  · obtain rfl : i = 12 := by omega
    simp (disch := omega) only [X_X5_total_4_s, nls, lT, lF, tT, tF, eF, pF, zT, e0F, m1F, vT, cI, nI_1, nI_add, pk_mul, true_and, and_true, true_implies, false_implies, not_false_eq_true, not_true_eq_false, bzT1, bzT0, m10, m1z, o0F, forall_eq, implies_true, if_true, if_false]
    rw [sumF_12]
    exact k
theorem j_count (hG : Ly G) (h : Rel nn κ ρ) (x : Int32) : Jt nn (fun Q σ => X_X11_count G Q 1 x σ) (fun Q σ => X_X12_count G Q 1282 x σ) κ ρ := by
  have h0 := h
  obtain ⟨sc, n, mc, rt, hc, K, N, r0, us, ⟨hC, hm, -⟩, hT, hF, hS, hN, hK, hR, hU, hW, -⟩ := h
  have hL := hG.1
  have hM := hG.2.2.2
  have hT2 := hG.s hS.s2
  have hs2 := hS.s2
  refine ⟨if x = 0 then nI n else if x = 1 then nI (opF ρ 4) else if x = 2 then nI r0 else -1, κ, ρ, fun ρ1 Q hQ => ?_, fun κ1 Q hQ => ?_, h0.up⟩
  · simp (disch := omega) only [X_X11_count_0, X_X11_count, X_X11_openUnits_24, X_X11_openUnits_0, X_X11_openUnits, lT, lF, tT, tF, eF, pF, zT, m1F, vT, cI, true_and, and_true, true_implies, false_implies, not_false_eq_true, not_true_eq_false, forall_eq, implies_true, mI_c, mR_c, hL.1, hC.1, hS.r13, hT2.1, hS.nC]
    refine ⟨fun e => ?_, fun e => ?_, fun e => ?_, fun e => ?_⟩
    · subst e; simpa using hQ
    · subst e
      unfold X_X11_openUnits_4
      refine Lw.nat 4 (fun i x => x = (nI (opF ρ i), nI i, mg κ ρ1)) ?_ 0 (by omega) _ rfl
      rintro K' i x hi rfl hk
      by_cases h : i < 4
      · simp (disch := omega) only [X_X11_openUnits_4_s, X_X11_openUnits_24, nls, lT, lF, tT, tF, eF, pF, zT, e0F, m1F, vT, cI, nI_1, nI_add, pk_mul, true_and, and_true, true_implies, false_implies, not_false_eq_true, not_true_eq_false, bzT1, bzT0, m10, m1z, o0F, forall_eq, implies_true, if_true, if_false, mI_c, mR_c, hL.1, hC.1, hL.2.1, hC.2.1, (hU i h).1]
        refine ⟨fun e => hk _ h ?_, fun e => hk _ h ?_⟩
        · simp only [opF, e, if_true, Nat.add_zero]
        · simp only [opF, e, if_false]
      · obtain rfl : i = 4 := by omega
        simp (disch := omega) only [X_X11_openUnits_4_s, nls, lT, lF, tT, tF, eF, pF, zT, e0F, m1F, vT, cI, nI_1, nI_add, pk_mul, true_and, and_true, true_implies, false_implies, not_false_eq_true, not_true_eq_false, bzT1, bzT0, m10, m1z, o0F, forall_eq, implies_true, if_true, if_false]
        simpa using hQ
    · subst e
      refine c_total hL hC hR.1 ?_
      rw [← hR.2.2.1]
      simpa using hQ
    · simpa [e] using hQ
  · simp (disch := omega) only [X_X12_count_91, X_X12_count_76, X_X12_count_61, X_X12_count_47, X_X12_count_0, X_X12_count, lT, lF, tT, tF, eF, pF, zT, m1F, vT, cI, true_and, and_true, true_implies, false_implies, not_false_eq_true, not_true_eq_false, forall_eq, implies_true, mI_m, mR_m, hM.1, hM.2, hm.1, hm.2, hS.nM, hR.2.1]
    refine ⟨fun e => ?_, fun e => ?_, fun e => ?_, fun e => ?_⟩
    · subst e; simpa using hQ
    · subst e
      simp only [show ¬ (1 : Int32) = 0 by decide, if_false, if_true, opF, Nat.zero_add] at hQ
      simp (disch := omega) only [n0, n1, nls, lT, lF, tT, tF, eF, pF, zT, e0F, m1F, vT, cI, nI_1, nI_add, pk_mul, true_and, and_true, true_implies, false_implies, not_false_eq_true, not_true_eq_false, bzT1, bzT0, m10, m1z, o0F, forall_eq, implies_true, if_true, if_false]
      simp only [← n0, ← n1]
      by_cases a0 : mI ρ 1316 0 = 0 <;> by_cases a1 : mI ρ 1316 1 = 0 <;> by_cases a2 : mI ρ 1316 2 = 0 <;> by_cases a3 : mI ρ 1316 3 = 0 <;> simp [a0, a1, a2, a3] at hQ ⊢ <;> exact hQ
    · subst e; simpa using hQ
    · simpa [e] using hQ
end CALLS4
