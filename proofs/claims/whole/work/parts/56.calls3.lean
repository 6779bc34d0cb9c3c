section CALLS3
variable {G : Lay} {nn sc n r0 : Nat} {mc rt hc K N us : Nat → Nat} {κ ρ κ1 ρ1 : Mem}
theorem j_look (hG : Ly G) (h : Rel nn κ ρ) (x y : Int32) : Jt nn (fun Q σ => X_X11_look G Q 1 x y σ) (fun Q σ => X_X12_look G Q 1282 x y σ) κ ρ := by
  have h0 := h
  obtain ⟨sc, n, mc, rt, hc, K, N, r0, us, ⟨hC, hm, -⟩, hT, hF, hS, hN, hK, hR, hU, hW, -⟩ := h
  have hL := hG.1
  have hM := hG.2.2.2
  have hT2 := hG.s hS.s2
  have h12 := hS.le
  have hs2 := hS.s2
  rcases clsCase n x with ⟨c, hc1, rfl⟩ | hx
  · obtain ⟨e1, e2, e3, e4, e5, e6, -⟩ := hS.cls hc1
    refine ⟨if y = 0 then mI ρ 1285 c else if y = 1 then nI (rt c) else if y = 2 then mI ρ 1286 c else if y = 3 then nI (mc c) else -1, κ, ρ, fun ρ1 Q hQ => ?_, fun κ1 Q hQ => ?_, h0.up⟩
    · simp (disch := omega) only [X_X11_look_0, X_X11_look, lT, lF, tT, tF, eF, pF, zT, m1F, vT, cI, true_and, and_true, true_implies, false_implies, not_false_eq_true, not_true_eq_false, forall_eq, implies_true, mI_c, mR_c, hL.1, hC.1, hS.r13, hT2.1]
      refine c_kindAt1 hG hC hS hc1 (brF (by omega) ?_)
      simp (disch := omega) only [lT, lF, tT, tF, eF, pF, zT, m1F, vT, cI, true_and, and_true, true_implies, false_implies, not_false_eq_true, not_true_eq_false, forall_eq, implies_true, mI_c, mR_c, hT2.2.1, e1, e2, e3, e4]
      refine ⟨fun e => ?_, fun e => ?_, fun e => ?_, fun e => ?_, fun e => ?_⟩
      iterate 4 (subst e; simpa using hQ)
      simpa [e] using hQ
    · simp (disch := omega) only [X_X12_look_0, X_X12_look, lT, lF, tT, tF, eF, pF, zT, m1F, vT, cI, true_and, and_true, true_implies, false_implies, not_false_eq_true, not_true_eq_false, forall_eq, implies_true, hM.1]
      refine m_isClass1 hM hm hS.nM h12 hc1 (br1 ?_)
      simp (disch := omega) only [lT, lF, tT, tF, eF, pF, zT, m1F, vT, cI, true_and, and_true, true_implies, false_implies, not_false_eq_true, not_true_eq_false, forall_eq, implies_true, mI_m, mR_m, hM.1, hM.2, hm.1, hm.2, e5]
      refine ⟨fun e => ?_, fun e => m_rootOf hM hm hS hc1 ?_, fun e => ?_, fun e => ?_, fun e => ?_⟩
      iterate 4 (subst e; simpa using hQ)
      simpa [e] using hQ
  · refine ⟨-1, κ, ρ, fun ρ1 Q hQ => ?_, fun κ1 Q hQ => ?_, h0.up⟩
    · simp (disch := omega) only [X_X11_look_0, X_X11_look, lT, lF, tT, tF, eF, pF, zT, m1F, vT, cI, true_and, and_true, true_implies, false_implies, not_false_eq_true, not_true_eq_false, forall_eq, implies_true, mI_c, mR_c, hL.1, hC.1, hS.r13, hT2.1]
      exact c_kindAt0 hG hC hS hx (brT rfl hQ)
    · simp (disch := omega) only [X_X12_look_0, X_X12_look, lT, lF, tT, tF, eF, pF, zT, m1F, vT, cI, true_and, and_true, true_implies, false_implies, not_false_eq_true, not_true_eq_false, forall_eq, implies_true, hM.1]
      exact m_isClass0 hM hm hS.nM h12 hx (br0 hQ)
theorem j_member (hG : Ly G) (h : Rel nn κ ρ) (x z y : Int32) : Jt nn (fun Q σ => X_X11_member G Q 1 x z y σ) (fun Q σ => X_X12_member G Q 1282 x z y σ) κ ρ := by
  have h0 := h
  obtain ⟨sc, n, mc, rt, hc, K, N, r0, us, ⟨hC, hm, -⟩, hT, hF, hS, hN, hK, hR, hU, hW, -⟩ := h
  have hL := hG.1
  have hM := hG.2.2.2
  have hT2 := hG.s hS.s2
  have h12 := hS.le
  have hs2 := hS.s2
  rcases clsCase n x with ⟨c, hc1, rfl⟩ | hx
  · have h16 := hS.m16 hc1
    have hmc := (hS.cls hc1).2.2.2.2.1
    rcases clsCase (mc c) z with ⟨m, hm1, rfl⟩ | hz
    · obtain ⟨q0, q1, q2, q3, q5, q8, q11⟩ := hS.mem hc1 hm1
      obtain ⟨⟨k, k5, ek, k3, -, kt⟩, -⟩ := hS.mw hc1 hm1
      have g3 : gT G (mR κ (sc + 5 + 5 * c) m) = 3 := by
        have := hT2.2.2 (mR κ (sc + 5 + 5 * c) m - (sc + 64)) (by omega)
        rwa [show sc + 64 + (mR κ (sc + 5 + 5 * c) m - (sc + 64)) = mR κ (sc + 5 + 5 * c) m by omega] at this
      refine ⟨if y = 0 then nI k else if y = 1 then (if 4 ≤ k then mI ρ 1291 (16 * c + m) else mI ρ 1293 (16 * c + m)) else if y = 2 then mI ρ 1294 (16 * c + m) else if y = 3 then (if k = 5 then mI ρ 1295 (16 * c + m) else -1) else -1, κ, ρ, fun ρ1 Q hQ => ?_, fun κ1 Q hQ => ?_, h0.up⟩
      · simp (disch := omega) only [X_X11_member_79, X_X11_member_104, X_X11_member_0, X_X11_member, lT, lF, tT, tF, eF, pF, zT, m1F, vT, cI, true_and, and_true, true_implies, false_implies, not_false_eq_true, not_true_eq_false, forall_eq, implies_true, mI_c, mR_c, hL.1, hC.1, hS.r13, hT2.1]
        refine c_memberAt1 hG hC hS hc1 hm1 (brF (by omega) ?_)
        rw [ek] at q2 q8 q11
        simp (disch := omega) only [X_X2_isLeading_21, X_X2_isLeading_16, X_X2_isLeading_0, X_X2_isLeading, lT, lF, tT, tF, eF, pF, zT, m1F, vT, cI, true_and, and_true, true_implies, false_implies, not_false_eq_true, not_true_eq_false, forall_eq, implies_true, mI_c, mR_c, g3, q1, q2, q3, q5, bzT1, bzT0]
        refine ⟨fun e => ?_, fun e => ?_, fun e => ?_, fun e => ?_, fun e => ?_⟩
        · subst e; simpa using hQ
        · subst e
          simp only [show ¬ (1 : Int32) = 0 by decide, if_false, if_true] at hQ
          by_cases h4 : 4 ≤ k
          · rw [if_pos h4, ← q8 ((lI (a := 4) (by decide) (by omega)).mpr h4)] at hQ
            refine ⟨fun _ => br1 hQ, fun e1 => ⟨fun _ => br1 hQ, fun e2 => ?_⟩⟩
            exfalso
            have : k = 4 ∨ k = 5 := by omega
            rcases this with rfl | rfl
            · exact e1 rfl
            · exact e2 rfl
          · rw [if_neg h4] at hQ
            refine brF (fun e1 => ?_) (brF (fun e1 => ?_) hQ)
            · have := (eI (b := 4) (by omega) (by decide)).mp e1
              omega
            · have := (eI (b := 5) (by omega) (by decide)).mp e1
              omega
        · subst e; simpa using hQ
        · subst e
          simp only [show ¬ (3 : Int32) = 0 by decide, show ¬ (3 : Int32) = 1 by decide, show ¬ (3 : Int32) = 2 by decide, if_false, if_true] at hQ
          by_cases h5 : k = 5
          · subst h5
            rw [if_pos rfl, ← q11 rfl] at hQ
            exact brT rfl hQ
          · rw [if_neg h5] at hQ
            refine brF (fun e1 => ?_) hQ
            have := (eI (b := 5) (by omega) (by decide)).mp e1
            omega
        · simpa [e] using hQ
      · simp (disch := omega) only [X_X12_member_22, X_X12_member_115, X_X12_member_146, X_X12_member_0, X_X12_member, lT, lF, tT, tF, eF, pF, zT, m1F, vT, cI, true_and, and_true, true_implies, false_implies, not_false_eq_true, not_true_eq_false, forall_eq, implies_true, hM.1]
        refine m_isClass1 hM hm hS.nM h12 hc1 (br1 ?_)
        simp (disch := omega) only [nls, pk_mul, nI_add, lT, lF, tT, tF, eF, pF, zT, m1F, vT, cI, true_and, and_true, true_implies, false_implies, not_false_eq_true, not_true_eq_false, forall_eq, implies_true, mI_m, mR_m, hM.1, hM.2, hm.1, hm.2, hmc, ek]
        simp only [← nls.1, ← nls.2.1]
        refine ⟨fun e => ?_, fun e => ?_, fun e => ?_, fun e => ?_, fun e => ?_⟩
        · subst e; simpa using hQ
        · subst e
          simp only [show ¬ (1 : Int32) = 0 by decide, if_false, if_true] at hQ
          by_cases h4 : 4 ≤ k
          · rw [if_pos h4] at hQ
            exact brF (fun e1 => by have := (tI (by omega) (by decide)).mp e1; omega) hQ
          · rw [if_neg h4] at hQ
            refine brT ((tI (by omega) (by decide)).mpr (by omega)) ?_
            by_cases e3 : k = 3
            · subst e3; exact brT rfl hQ
            · refine brF (fun e1 => ?_) ?_
              · exact e3 ((eI (b := 3) (by omega) (by decide)).mp e1)
              · rw [← k3 (Ne.symm e3)]; exact hQ
        · subst e; simpa using hQ
        · subst e
          simp only [show ¬ (3 : Int32) = 0 by decide, show ¬ (3 : Int32) = 1 by decide, show ¬ (3 : Int32) = 2 by decide, if_false, if_true] at hQ
          by_cases h5 : k = 5
          · subst h5
            rw [if_pos rfl] at hQ
            exact brT rfl hQ
          · rw [if_neg h5] at hQ
            refine brF (fun e1 => ?_) hQ
            have := (eI (b := 5) (by omega) (by decide)).mp e1
            omega
        · simpa [e] using hQ
    · refine ⟨-1, κ, ρ, fun ρ1 Q hQ => ?_, fun κ1 Q hQ => ?_, h0.up⟩
      · simp (disch := omega) only [X_X11_member_79, X_X11_member_104, X_X11_member_0, X_X11_member, lT, lF, tT, tF, eF, pF, zT, m1F, vT, cI, true_and, and_true, true_implies, false_implies, not_false_eq_true, not_true_eq_false, forall_eq, implies_true, mI_c, mR_c, hL.1, hC.1, hS.r13, hT2.1]
        exact c_memberAt0 hG hC hS (Or.inr ⟨c, hc1, rfl, hz⟩) (brT rfl hQ)
      · simp (disch := omega) only [X_X12_member_22, X_X12_member_115, X_X12_member_146, X_X12_member_0, X_X12_member, lT, lF, tT, tF, eF, pF, zT, m1F, vT, cI, true_and, and_true, true_implies, false_implies, not_false_eq_true, not_true_eq_false, forall_eq, implies_true, hM.1]
        refine m_isClass1 hM hm hS.nM h12 hc1 (br1 ?_)
        rcases hz with hz | ⟨m, m1, m2, rfl⟩
        · exact brT hz hQ
        · refine brF (pI m2) ?_
          simp (disch := omega) only [lT, lF, tT, tF, eF, pF, zT, m1F, vT, cI, true_and, and_true, true_implies, false_implies, not_false_eq_true, not_true_eq_false, forall_eq, implies_true, mI_m, mR_m, hM.1, hM.2, hm.1, hm.2, hmc]
          exact hQ
  · refine ⟨-1, κ, ρ, fun ρ1 Q hQ => ?_, fun κ1 Q hQ => ?_, h0.up⟩
    · simp (disch := omega) only [X_X11_member_79, X_X11_member_104, X_X11_member_0, X_X11_member, lT, lF, tT, tF, eF, pF, zT, m1F, vT, cI, true_and, and_true, true_implies, false_implies, not_false_eq_true, not_true_eq_false, forall_eq, implies_true, mI_c, mR_c, hL.1, hC.1, hS.r13, hT2.1]
      exact c_memberAt0 hG hC hS (Or.inl hx) (brT rfl hQ)
    · simp (disch := omega) only [X_X12_member_22, X_X12_member_115, X_X12_member_146, X_X12_member_0, X_X12_member, lT, lF, tT, tF, eF, pF, zT, m1F, vT, cI, true_and, and_true, true_implies, false_implies, not_false_eq_true, not_true_eq_false, forall_eq, implies_true, hM.1]
      exact m_isClass0 hM hm hS.nM h12 hx (br0 hQ)
end CALLS3
