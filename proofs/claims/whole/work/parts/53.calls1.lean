/-! the calls, both sides at once -/
def Ly (G : Lay) : Prop := LyC G ∧ LyS G 14 ∧ LyS G 275 ∧ LyM G
theorem Ly.s {G : Lay} (h : Ly G) {sc : Nat} (hs : sc = 14 ∨ sc = 275) : LyS G sc := by
  rcases hs with rfl | rfl
  · exact h.2.1
  · exact h.2.2.1
def Jt {α : Type} (nn : Nat) (X Y : (α → Mem → Prop) → Mem → Prop) (κ ρ : Mem) : Prop := ∃ (w : α) (κ' ρ' : Mem), RunC X κ w κ' ∧ RunM Y ρ w ρ' ∧ Rel (nn + 1) κ' ρ'
section CALLS
variable {G : Lay} {nn : Nat} {κ ρ : Mem}
theorem Rel.up (h : Rel nn κ ρ) : Rel (nn + 1) κ ρ := by
  obtain ⟨sc, n, mc, rt, hc, K, N, r0, us, h⟩ := h
  exact ⟨sc, n, mc, rt, hc, K, N, r0, us, h.fr h.1.1 h.1.2.1 Eqv.rf Eqv.rf (Nat.le_succ _)⟩
theorem j_fault (hG : Ly G) (h : Rel nn κ ρ) (x : Int32) : Jt nn (fun Q σ => X_X11_fault G Q 1 x σ) (fun Q σ => X_X12_fault G Q 1282 x σ) κ ρ := by
  have h0 := h
  obtain ⟨sc, n, mc, rt, hc, K, N, r0, us, ⟨hC, hm, -⟩, hT, hF, -⟩ := h
  have hL := hG.1
  have hM := hG.2.2.2
  refine ⟨if x = 0 then mI ρ 1282 54 else if x = 1 then mI ρ 1282 55 else -1, κ, ρ, fun ρ1 Q hQ => ?_, fun κ1 Q hQ => ?_, h0.up⟩
  · simp (disch := omega) only [X_X11_fault_0, X_X11_fault, mI_c, mR_c, mJ_c, sI_c, sJ_c, sR_c, hL.1, hL.2.1, hL.2.2, hC.1, hC.2.1, hC.2.2.1, nls, lT, lF, tT, tF, eF, pF, zT, e0F, m1F, vT, cI, nI_1, nI_add, pk_mul, true_and, and_true, true_implies, false_implies, not_false_eq_true, not_true_eq_false, bzT1, bzT0, m10, m1z, o0F, forall_eq, implies_true, if_true, if_false, hF.1, hF.2] 
    by_cases e0 : x = 0
    · subst e0; simpa using hQ
    · by_cases e1 : x = 1
      · subst e1; simpa using hQ
      · simpa [e0, e1] using hQ
  · simp (disch := omega) only [X_X12_fault_24, X_X12_fault_0, X_X12_fault, mI_m, mR_m, mJ_m, sI_m, sJ_m, hM.1, hM.2, hm.1, hm.2, nls, lT, lF, tT, tF, eF, pF, zT, e0F, m1F, vT, cI, nI_1, nI_add, pk_mul, true_and, and_true, true_implies, false_implies, not_false_eq_true, not_true_eq_false, bzT1, bzT0, m10, m1z, o0F, forall_eq, implies_true, if_true, if_false]
    by_cases e0 : x = 0
    · subst e0; simpa using hQ
    · by_cases e1 : x = 1
      · subst e1; simpa using hQ
      · simpa [e0, e1] using hQ
theorem j_outcome (hG : Ly G) (h : Rel nn κ ρ) (x : Int32) : Jt nn (fun Q σ => X_X11_outcome G Q 1 x σ) (fun Q σ => X_X12_outcome G Q 1282 x σ) κ ρ := by
  have h0 := h
  obtain ⟨sc, n, mc, rt, hc, K, N, r0, us, ⟨hC, hm, -⟩, hT, hF, hS, hN, hK, hR, hU, hW, hD, -⟩ := h
  have hL := hG.1
  have hM := hG.2.2.2
  obtain ⟨w1, w2, w3, w4, w5, -⟩ := hW
  refine ⟨if x = 0 then mI ρ 1282 64 else if x = 1 then mI ρ 1282 65 else if x = 2 then mI ρ 1282 66 else if x = 3 then mI ρ 1282 67 else if x = 4 then mI ρ 1282 68 else -1, κ, ρ, fun ρ1 Q hQ => ?_, fun κ1 Q hQ => ?_, h0.up⟩
  · simp (disch := omega) only [X_X11_outcome_0, X_X11_outcome, mI_c, mR_c, hC.1, hL.1, true_and, w1, w2, w3, w4, w5]
    refine ⟨fun e => ?_, fun e => ?_, fun e => ?_, fun e => ?_, fun e => ?_, fun e => ?_⟩
    iterate 5 (subst e; simpa using hQ)
    simpa [e] using hQ
  · simp (disch := omega) only [X_X12_outcome_0, X_X12_outcome, mI_m, mR_m, hM.1, hM.2, true_and]
    refine ⟨fun e => ?_, fun e => ?_, fun e => ?_, fun e => ?_, fun e => ?_, fun e => ?_⟩
    iterate 5 (subst e; simpa using hQ)
    simpa [e] using hQ
end CALLS
