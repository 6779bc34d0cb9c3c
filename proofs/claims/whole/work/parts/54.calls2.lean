/-- a loop that goes on below u and ends there -/
theorem Lw.at {F : (Int32 × Mem → Prop) → Int32 × Mem → Prop} {σ : Mem} (u : Nat) (hs : ∀ (K : Int32 × Mem → Prop) (i : Nat), i < u → K (nI (i + 1), σ) → F K (nI i, σ)) (he : ∀ K : Int32 × Mem → Prop, F K (nI u, σ)) : Lw F (0, σ) := by
  refine Lw.nat u (fun i x => x = (nI i, σ)) ?_ 0 (Nat.zero_le _) _ rfl
  intro K i x hi e hk
  subst e
  by_cases h : i < u
  · exact hs K i h (hk _ h rfl)
  · have : i = u := by omega
    subst this
    exact he K
section CALLS2
variable {G : Lay} {nn sc n r0 : Nat} {mc rt hc K N us : Nat → Nat} {κ ρ κ1 ρ1 : Mem}
theorem j_write (hG : Ly G) (h : Rel nn κ ρ) (x y : Int32) : Jt nn (fun Q σ => X_X11_write G Q 1 x y σ) (fun Q σ => X_X12_write G Q 1282 x y σ) κ ρ := by
  have h0 := h
  obtain ⟨sc, n, mc, rt, hc, K, N, r0, us, ⟨hC, hm, -⟩, hT, hF, hS, hN, hK, hR, hU, hW, hD, -⟩ := h
  have hL := hG.1
  have hM := hG.2.2.2
  obtain ⟨-, -, -, -, -, w, w1, w2, w3, w4⟩ := hW
  rcases iI x with hx | ⟨i, hi, rfl⟩
  · refine ⟨-1, κ, ρ, fun ρ1 Q hQ => ?_, fun κ1 Q hQ => ?_, h0.up⟩
    · simp (disch := omega) only [X_X11_write_0, X_X11_write, X_X10_logged_12, X_X10_logged_0, X_X10_logged, mI_c, mR_c, mJ_c, sI_c, sJ_c, sR_c, hL.1, hL.2.1, hL.2.2, hC.1, hC.2.1, hC.2.2.1, nls, lT, lF, tT, tF, eF, pF, zT, e0F, m1F, vT, cI, nI_1, nI_add, pk_mul, true_and, and_true, true_implies, false_implies, not_false_eq_true, not_true_eq_false, bzT1, bzT0, m10, m1z, o0F, forall_eq, implies_true, if_true, if_false, hx]
      exact hQ
    · simp (disch := omega) only [X_X12_write_12, X_X12_write_0, X_X12_write, mI_m, mR_m, mJ_m, sI_m, sJ_m, hM.1, hM.2, hm.1, hm.2, nls, lT, lF, tT, tF, eF, pF, zT, e0F, m1F, vT, cI, nI_1, nI_add, pk_mul, true_and, and_true, true_implies, false_implies, not_false_eq_true, not_true_eq_false, bzT1, bzT0, m10, m1z, o0F, forall_eq, implies_true, if_true, if_false, hx]
      exact hQ
  · by_cases hi2 : i < w
    · obtain ⟨z1, z2, z3, z4⟩ := w4 i hi2
      refine ⟨if y = 0 then mI ρ 1330 i else if y = 1 then mI ρ 1331 i else if y = 2 then mI ρ 1332 i else if y = 3 then mI ρ 1333 i else -1, κ, ρ, fun ρ1 Q hQ => ?_, fun κ1 Q hQ => ?_, h0.up⟩
      · simp (disch := omega) only [X_X11_write_0, X_X11_write, X_X10_logged_12, X_X10_logged_0, X_X10_logged, mI_c, mR_c, hC.1, hL.1, lT, lF, tT, tF, eF, pF, zT, m1F, vT, cI, true_and, and_true, true_implies, false_implies, not_false_eq_true, not_true_eq_false, forall_eq, implies_true, w2, z1, z2, z3, z4]
        refine ⟨fun e => ?_, fun e => ?_, fun e => ?_, fun e => ?_, fun e => ?_⟩
        iterate 4 (subst e; simpa using hQ)
        simpa [e] using hQ
      · simp (disch := omega) only [X_X12_write_12, X_X12_write_0, X_X12_write, mI_m, mR_m, hm.1, hm.2, hM.1, hM.2, lT, lF, tT, tF, eF, pF, zT, m1F, vT, cI, true_and, and_true, true_implies, false_implies, not_false_eq_true, not_true_eq_false, forall_eq, implies_true, w3]
        refine ⟨fun e => ?_, fun e => ?_, fun e => ?_, fun e => ?_, fun e => ?_⟩
        iterate 4 (subst e; simpa using hQ)
        simpa [e] using hQ
    · refine ⟨-1, κ, ρ, fun ρ1 Q hQ => ?_, fun κ1 Q hQ => ?_, h0.up⟩
      · simp (disch := omega) only [X_X11_write_0, X_X11_write, X_X10_logged_12, X_X10_logged_0, X_X10_logged, mI_c, mR_c, mJ_c, sI_c, sJ_c, sR_c, hL.1, hL.2.1, hL.2.2, hC.1, hC.2.1, hC.2.2.1, nls, lT, lF, tT, tF, eF, pF, zT, e0F, m1F, vT, cI, nI_1, nI_add, pk_mul, true_and, and_true, true_implies, false_implies, not_false_eq_true, not_true_eq_false, bzT1, bzT0, m10, m1z, o0F, forall_eq, implies_true, if_true, if_false, w2]
        exact hQ
      · simp (disch := omega) only [X_X12_write_12, X_X12_write_0, X_X12_write, mI_m, mR_m, mJ_m, sI_m, sJ_m, hM.1, hM.2, hm.1, hm.2, nls, lT, lF, tT, tF, eF, pF, zT, e0F, m1F, vT, cI, nI_1, nI_add, pk_mul, true_and, and_true, true_implies, false_implies, not_false_eq_true, not_true_eq_false, bzT1, bzT0, m10, m1z, o0F, forall_eq, implies_true, if_true, if_false, w3]
        exact hQ
theorem j_found (hG : Ly G) (h : Rel nn κ ρ) (x : Int32) : Jt nn (fun Q σ => X_X11_found G Q 1 x σ) (fun Q σ => X_X12_found G Q 1282 x σ) κ ρ := by
  have h0 := h
  obtain ⟨sc, n, mc, rt, hc, K, N, r0, us, ⟨hC, hm, -⟩, hT, hF, hS, hN, hK, hR, hU, hW, ⟨t, w1, w2, w3, w4⟩, -⟩ := h
  have hL := hG.1
  have hM := hG.2.2.2
  rcases iI x with hx | ⟨i, hi, rfl⟩
  · refine ⟨-1, κ, ρ, fun ρ1 Q hQ => ?_, fun κ1 Q hQ => ?_, h0.up⟩
    · simp (disch := omega) only [X_X11_found_22, X_X11_found_12, X_X11_found_0, X_X11_found, mI_c, mR_c, mJ_c, sI_c, sJ_c, sR_c, hL.1, hL.2.1, hL.2.2, hC.1, hC.2.1, hC.2.2.1, nls, lT, lF, tT, tF, eF, pF, zT, e0F, m1F, vT, cI, nI_1, nI_add, pk_mul, true_and, and_true, true_implies, false_implies, not_false_eq_true, not_true_eq_false, bzT1, bzT0, m10, m1z, o0F, forall_eq, implies_true, if_true, if_false, hx]
      exact hQ
    · simp (disch := omega) only [X_X12_found_22, X_X12_found_12, X_X12_found_0, X_X12_found, mI_m, mR_m, mJ_m, sI_m, sJ_m, hM.1, hM.2, hm.1, hm.2, nls, lT, lF, tT, tF, eF, pF, zT, e0F, m1F, vT, cI, nI_1, nI_add, pk_mul, true_and, and_true, true_implies, false_implies, not_false_eq_true, not_true_eq_false, bzT1, bzT0, m10, m1z, o0F, forall_eq, implies_true, if_true, if_false, hx]
      exact hQ
  · by_cases hi2 : i < t
    · have z1 := w4 i hi2
      refine ⟨mI ρ 1345 i, κ, ρ, fun ρ1 Q hQ => ?_, fun κ1 Q hQ => ?_, h0.up⟩
      · simp (disch := omega) only [X_X11_found_22, X_X11_found_12, X_X11_found_0, X_X11_found, mI_c, mR_c, mJ_c, sI_c, sJ_c, sR_c, hL.1, hL.2.1, hL.2.2, hC.1, hC.2.1, hC.2.2.1, nls, lT, lF, tT, tF, eF, pF, zT, e0F, m1F, vT, cI, nI_1, nI_add, pk_mul, true_and, and_true, true_implies, false_implies, not_false_eq_true, not_true_eq_false, bzT1, bzT0, m10, m1z, o0F, forall_eq, implies_true, if_true, if_false, w2, z1]
        exact hQ
      · simp (disch := omega) only [X_X12_found_22, X_X12_found_12, X_X12_found_0, X_X12_found, mI_m, mR_m, mJ_m, sI_m, sJ_m, hM.1, hM.2, hm.1, hm.2, nls, lT, lF, tT, tF, eF, pF, zT, e0F, m1F, vT, cI, nI_1, nI_add, pk_mul, true_and, and_true, true_implies, false_implies, not_false_eq_true, not_true_eq_false, bzT1, bzT0, m10, m1z, o0F, forall_eq, implies_true, if_true, if_false, w3]
        exact hQ
    · refine ⟨-1, κ, ρ, fun ρ1 Q hQ => ?_, fun κ1 Q hQ => ?_, h0.up⟩
      · simp (disch := omega) only [X_X11_found_22, X_X11_found_12, X_X11_found_0, X_X11_found, mI_c, mR_c, mJ_c, sI_c, sJ_c, sR_c, hL.1, hL.2.1, hL.2.2, hC.1, hC.2.1, hC.2.2.1, nls, lT, lF, tT, tF, eF, pF, zT, e0F, m1F, vT, cI, nI_1, nI_add, pk_mul, true_and, and_true, true_implies, false_implies, not_false_eq_true, not_true_eq_false, bzT1, bzT0, m10, m1z, o0F, forall_eq, implies_true, if_true, if_false, w2]
        exact hQ
      · simp (disch := omega) only [X_X12_found_22, X_X12_found_12, X_X12_found_0, X_X12_found, mI_m, mR_m, mJ_m, sI_m, sJ_m, hM.1, hM.2, hm.1, hm.2, nls, lT, lF, tT, tF, eF, pF, zT, e0F, m1F, vT, cI, nI_1, nI_add, pk_mul, true_and, and_true, true_implies, false_implies, not_false_eq_true, not_true_eq_false, bzT1, bzT0, m10, m1z, o0F, forall_eq, implies_true, if_true, if_false, w3]
        exact hQ
/-! units -/
theorem unitCase (hU : RelU us κ ρ) (x : Int32) : (∃ u, u < 4 ∧ x = nI u ∧ mI ρ 1316 u = 1) ∨ (x < 0 ∨ ∃ u, u < 2147483648 ∧ x = nI u ∧ (4 ≤ u ∨ mI ρ 1316 u = 0)) := by
  rcases iI x with hx | ⟨u, hu, rfl⟩
  · exact Or.inr (Or.inl hx)
  · by_cases h4 : u < 4
    · rcases (hU u h4).2 with e | e
      · exact Or.inr (Or.inr ⟨u, hu, rfl, Or.inr e⟩)
      · exact Or.inl ⟨u, h4, rfl, e.1⟩
    · exact Or.inr (Or.inr ⟨u, hu, rfl, Or.inl (by omega)⟩)
theorem c_openUnit1 (hL : LyC G) (hC : StC κ) (hU : RelU us κ ρ) {Q : Nat → Mem → Prop} {u : Nat} (hu : u < 4) (ho : mI ρ 1316 u = 1) (k : Q (533 + 184 * u) (mg κ ρ1)) : X_X11_openUnit G Q 1 (nI u) (mg κ ρ1) := by
  have e := (hU u hu).1
  rw [ho] at e
  simp (disch := omega) only [X_X11_openUnit_31, X_X11_openUnit_21, X_X11_openUnit_0, X_X11_openUnit, mI_c, mR_c, mJ_c, sI_c, sJ_c, sR_c, hL.1, hL.2.1, hL.2.2, hC.1, hC.2.1, hC.2.2.1, nls, lT, lF, tT, tF, eF, pF, zT, e0F, m1F, vT, cI, nI_1, nI_add, pk_mul, true_and, and_true, true_implies, false_implies, not_false_eq_true, not_true_eq_false, bzT1, bzT0, m10, m1z, o0F, forall_eq, implies_true, if_true, if_false, e]
  exact k
theorem c_openUnit0 (hL : LyC G) (hC : StC κ) (hU : RelU us κ ρ) {Q : Nat → Mem → Prop} {x : Int32} (hx : x < 0 ∨ ∃ u, u < 2147483648 ∧ x = nI u ∧ (4 ≤ u ∨ mI ρ 1316 u = 0)) (k : Q 0 (mg κ ρ1)) : X_X11_openUnit G Q 1 x (mg κ ρ1) := by
  rcases hx with hx | ⟨u, hu, rfl, hx⟩
  · simp (disch := omega) only [X_X11_openUnit_31, X_X11_openUnit_21, X_X11_openUnit_0, X_X11_openUnit, mI_c, mR_c, mJ_c, sI_c, sJ_c, sR_c, hL.1, hL.2.1, hL.2.2, hC.1, hC.2.1, hC.2.2.1, nls, lT, lF, tT, tF, eF, pF, zT, e0F, m1F, vT, cI, nI_1, nI_add, pk_mul, true_and, and_true, true_implies, false_implies, not_false_eq_true, not_true_eq_false, bzT1, bzT0, m10, m1z, o0F, forall_eq, implies_true, if_true, if_false, hx]
    exact k
  · by_cases h4 : u < 4
    · have e := (hU u h4).1
      rw [hx.resolve_left (by omega)] at e
      simp (disch := omega) only [X_X11_openUnit_31, X_X11_openUnit_21, X_X11_openUnit_0, X_X11_openUnit, mI_c, mR_c, mJ_c, sI_c, sJ_c, sR_c, hL.1, hL.2.1, hL.2.2, hC.1, hC.2.1, hC.2.2.1, nls, lT, lF, tT, tF, eF, pF, zT, e0F, m1F, vT, cI, nI_1, nI_add, pk_mul, true_and, and_true, true_implies, false_implies, not_false_eq_true, not_true_eq_false, bzT1, bzT0, m10, m1z, o0F, forall_eq, implies_true, if_true, if_false, e]
      exact k
    · simp (disch := omega) only [X_X11_openUnit_31, X_X11_openUnit_21, X_X11_openUnit_0, X_X11_openUnit, mI_c, mR_c, mJ_c, sI_c, sJ_c, sR_c, hL.1, hL.2.1, hL.2.2, hC.1, hC.2.1, hC.2.2.1, nls, lT, lF, tT, tF, eF, pF, zT, e0F, m1F, vT, cI, nI_1, nI_add, pk_mul, true_and, and_true, true_implies, false_implies, not_false_eq_true, not_true_eq_false, bzT1, bzT0, m10, m1z, o0F, forall_eq, implies_true, if_true, if_false]
      exact k
theorem m_isUnit1 (hM : LyM G) (hm : StM ρ) {Q : Int32 → Mem → Prop} {u : Nat} (hu : u < 4) (ho : mI ρ 1316 u = 1) (k : Q 1 (mg κ1 ρ)) : X_X12_isUnit G Q 1282 (nI u) (mg κ1 ρ) := by
  simp (disch := omega) only [X_X12_isUnit_23, X_X12_isUnit_22, X_X12_isUnit_0, X_X12_isUnit, mI_m, mR_m, mJ_m, sI_m, sJ_m, hM.1, hM.2, hm.1, hm.2, nls, lT, lF, tT, tF, eF, pF, zT, e0F, m1F, vT, cI, nI_1, nI_add, pk_mul, true_and, and_true, true_implies, false_implies, not_false_eq_true, not_true_eq_false, bzT1, bzT0, m10, m1z, o0F, forall_eq, implies_true, if_true, if_false, ho]
  exact k
theorem m_isUnit0 (hM : LyM G) (hm : StM ρ) {Q : Int32 → Mem → Prop} {x : Int32} (hx : x < 0 ∨ ∃ u, u < 2147483648 ∧ x = nI u ∧ (4 ≤ u ∨ mI ρ 1316 u = 0)) (k : Q 0 (mg κ1 ρ)) : X_X12_isUnit G Q 1282 x (mg κ1 ρ) := by
  rcases hx with hx | ⟨u, hu, rfl, hx⟩
  · simp (disch := omega) only [X_X12_isUnit_23, X_X12_isUnit_22, X_X12_isUnit_0, X_X12_isUnit, mI_m, mR_m, mJ_m, sI_m, sJ_m, hM.1, hM.2, hm.1, hm.2, nls, lT, lF, tT, tF, eF, pF, zT, e0F, m1F, vT, cI, nI_1, nI_add, pk_mul, true_and, and_true, true_implies, false_implies, not_false_eq_true, not_true_eq_false, bzT1, bzT0, m10, m1z, o0F, forall_eq, implies_true, if_true, if_false, hx]
    exact k
  · by_cases h4 : u < 4
    · have e := hx.resolve_left (by omega)
      simp (disch := omega) only [X_X12_isUnit_23, X_X12_isUnit_22, X_X12_isUnit_0, X_X12_isUnit, mI_m, mR_m, mJ_m, sI_m, sJ_m, hM.1, hM.2, hm.1, hm.2, nls, lT, lF, tT, tF, eF, pF, zT, e0F, m1F, vT, cI, nI_1, nI_add, pk_mul, true_and, and_true, true_implies, false_implies, not_false_eq_true, not_true_eq_false, bzT1, bzT0, m10, m1z, o0F, forall_eq, implies_true, if_true, if_false, e]
      exact k
    · simp (disch := omega) only [X_X12_isUnit_23, X_X12_isUnit_22, X_X12_isUnit_0, X_X12_isUnit, mI_m, mR_m, mJ_m, sI_m, sJ_m, hM.1, hM.2, hm.1, hm.2, nls, lT, lF, tT, tF, eF, pF, zT, e0F, m1F, vT, cI, nI_1, nI_add, pk_mul, true_and, and_true, true_implies, false_implies, not_false_eq_true, not_true_eq_false, bzT1, bzT0, m10, m1z, o0F, forall_eq, implies_true, if_true, if_false]
      exact k
theorem j_loads (hG : Ly G) (h : Rel nn κ ρ) (x : Int32) : Jt nn (fun Q σ => X_X11_loads G Q 1 x σ) (fun Q σ => X_X12_loads G Q 1282 x σ) κ ρ := by
  have h0 := h
  obtain ⟨sc, n, mc, rt, hc, K, N, r0, us, ⟨hC, hm, -⟩, hT, hF, hS, hN, hK, hR, hU, hW, -⟩ := h
  have hL := hG.1
  have hM := hG.2.2.2
  rcases unitCase hU x with ⟨u, hu, rfl, ho⟩ | hx
  · have e := ((hU u hu).2.resolve_left (by rw [ho]; decide)).2.2.2.2.1
    refine ⟨mI ρ 1318 u, κ, ρ, fun ρ1 Q hQ => ?_, fun κ1 Q hQ => ?_, h0.up⟩
    · simp (disch := omega) only [X_X11_loads_18, X_X11_loads_0, X_X11_loads, hL.1, true_and]
      refine c_openUnit1 hL hC hU hu ho (brF (by omega) ?_)
      simp (disch := omega) only [mI_c, mR_c, mJ_c, sI_c, sJ_c, sR_c, hL.1, hL.2.1, hL.2.2, hC.1, hC.2.1, hC.2.2.1, nls, lT, lF, tT, tF, eF, pF, zT, e0F, m1F, vT, cI, nI_1, nI_add, pk_mul, true_and, and_true, true_implies, false_implies, not_false_eq_true, not_true_eq_false, bzT1, bzT0, m10, m1z, o0F, forall_eq, implies_true, if_true, if_false, e]
      exact hQ
    · simp (disch := omega) only [X_X12_loads_18, X_X12_loads_0, X_X12_loads, hM.1, true_and]
      refine m_isUnit1 hM hm hu ho (br1 ?_)
      simp (disch := omega) only [mI_m, mR_m, mJ_m, sI_m, sJ_m, hM.1, hM.2, hm.1, hm.2, nls, lT, lF, tT, tF, eF, pF, zT, e0F, m1F, vT, cI, nI_1, nI_add, pk_mul, true_and, and_true, true_implies, false_implies, not_false_eq_true, not_true_eq_false, bzT1, bzT0, m10, m1z, o0F, forall_eq, implies_true, if_true, if_false]
      exact hQ
  · refine ⟨-1, κ, ρ, fun ρ1 Q hQ => ?_, fun κ1 Q hQ => ?_, h0.up⟩
    · simp (disch := omega) only [X_X11_loads_18, X_X11_loads_0, X_X11_loads, hL.1, true_and]
      exact c_openUnit0 hL hC hU hx (brT rfl hQ)
    · simp (disch := omega) only [X_X12_loads_18, X_X12_loads_0, X_X12_loads, hM.1, true_and]
      exact m_isUnit0 hM hm hx (br0 hQ)
end CALLS2
