/-! the truth of a term, side by side -/
def EV (sc n : Nat) (mc rt hc K N : Nat → Nat) (r0 c0 A S : Nat) (P D : Nat → Nat) (κ ρ : Mem) : Prop := (StC κ ∧ StM ρ) ∧ RelS sc n mc rt hc κ ρ ∧ RelR N r0 κ ρ ∧ RowsW n r0 mc rt K ρ ∧ Prog n mc κ ρ c0 A 0 S P D ∧ (mI κ 8 0 = nI c0 ∧ mI ρ 1282 89 = nI c0 ∧ c0 < n) ∧ (mI κ 8 1 = nI (P A) ∧ mI ρ 1282 80 = nI A) ∧ (A = 0 ∨ D A = 1) ∧ (A ≤ 3000 ∧ P A ≤ 6000 ∧ S ≤ 3000)
section QEV
variable {G : Lay} {κ κ' ρ ρ' κ1 ρ1 : Mem} {sc n r0 c0 A S f i r j cc c m : Nat} {mc rt hc K N P D : Nat → Nat}
theorem j_term (hG : Ly G) (hE : EV sc n mc rt hc K N r0 c0 A S P D κ ρ) (hj : j < A) {e fr cnt cl ml : Nat} (he : e ≤ 1) (a1 : mI ρ 1339 j = nI e ∧ mI ρ 1340 j = nI fr ∧ mI ρ 1341 j = nI (cnt + 1)) (hS : fr + cnt + 1 ≤ S) (a2 : mI κ 9 (P j) = nI (4 - e) ∧ mI κ 9 (P j + 1) = nI (cnt + 1)) (a3 : ∀ q, q < cnt + 1 → mI κ 9 (P j + 2 + q) = mI ρ 1344 (fr + q)) (hP : P (j + 1) = P j + cnt + 5 - 2 * e) (a4 : e = 0 → mI κ 9 (P j + cnt + 3) = mI ρ 1342 j ∧ mI κ 9 (P j + cnt + 4) = mI ρ 1343 j) (hl : cl < n ∧ ml < mc cl ∧ mI ρ 1344 (fr + cnt) = nI ml) (cs : Nat → Nat) (hcs : cs cnt = cl) (hpt : ∀ q, q < cnt → cs q < n ∧ ∃ m, m < mc (cs q) ∧ mI ρ 1344 (fr + q) = nI m ∧ mI ρ 1290 (16 * cs q + m) = 4 ∧ mI ρ 1291 (16 * cs q + m) = nI (cs (q + 1))) : ∀ d q f i r, cnt - q = d → q ≤ cnt → f < 12 → i < N f → r < r0 → RowR κ ρ f i r → (∃ cc, cc < n ∧ mI ρ 1307 r = nI cc ∧ isa (par ρ) cc (cs q) = true) → ∃ v : Int32, (∀ ρ1 (Q : Int32 → Mem → Prop), Q v (mg κ ρ1) → Lw (X_X3_truthOfTerm_16_s G Q 8 13 (nI (P j)) (nI (cnt + 1))) (nI (60 * f + i), nI q, mg κ ρ1)) ∧ ∀ κ1 (Q : Int32 → Mem → Prop), Q v (mg κ1 ρ) → Lw (X_X12_told_27_s G Q 1282 (nI j) (nI (fr + cnt))) (nI r, nI (fr + q), mg κ1 ρ) := by
  have hL := hG.1
  have hM := hG.2.2.2
  obtain ⟨⟨hC, hm⟩, xS, xR, xY, pr, -, -, -, ⟨b1, b2, b3⟩⟩ := id hE
  have h12 := xS.le
  have hs := xS.1
  have r720 := xR.le
  have le := pr.le' (a := j + 1) (b := A) (by omega) (Nat.le_refl _)
  have g6 : gT G 13 = 6 := hL.1.2.2.2.2.2.2.2.2.2.2.2.2.2.2.2.2.2.2.2.1
  have n1 : (1 : Int32) = nI 1 := rfl
  have n2 : (2 : Int32) = nI 2 := rfl
  have n3 : (3 : Int32) = nI 3 := rfl
  have n16 : (16 : Int32) = nI 16 := rfl
  have z1f : (nI 1 = 0) = False := eq_false (by decide)
  have z00 : ((0 : Int32) = 0) = True := eq_true rfl
  have sub1 : nI (cnt + 1) - nI 1 = nI cnt := by rw [pk_sub (by omega), show cnt + 1 - 1 = cnt by omega]
  have sub1' : nI (cnt + 1) - (1 : Int32) = nI cnt := sub1
  have x1 : P j + 1 + (cnt + 1) = P j + 2 + cnt := by omega
  have x2 : P j + 2 + (cnt + 1) = P j + cnt + 3 := by omega
  have x3 : P j + 3 + (cnt + 1) = P j + cnt + 4 := by omega
  intro d
  induction d with
  | zero =>
    intro q f i r hd hq hf hi hr hro ⟨cc, c1, c2, c3⟩
    have eq : q = cnt := by omega
    subst eq
    rw [hcs] at c3
    have m1 := (mem_inh xS hl.2.1 cc c1 c3).1
    have m16 := xS.m16 c1
    have N60 := (xR.1 f hf).2
    have ev : mI κ 274 (16 * (60 * f + i) + ml) = mI ρ 1309 (16 * r + ml) := hro.2.2.2.2 ml (by omega)
    have el : mI κ 9 (P j + 2 + q) = nI ml := (a3 q (by omega)).trans hl.2.2
    obtain ⟨v, evv⟩ : ∃ v, v = mI ρ 1309 (16 * r + ml) := ⟨_, rfl⟩
    have evr : mI ρ 1309 (16 * r + ml) = v := evv.symm
    rw [evr] at ev
    obtain ⟨k1, k2, k3⟩ := a1
    obtain ⟨k4, k5⟩ := a2
    have l3 := hl.2.2
    by_cases he1 : e = 1
    · subst he1
      have k4 : mI κ 9 (P j) = nI 3 := k4
      by_cases hv : v = 0
      · have tt := True.intro
        have tv := eq_true hv
        refine ⟨2, fun ρ1 Q hQ => Lw.fin fun K2 => ?_, fun κ1 Q hQ => Lw.fin fun K2 => ?_⟩
        · simp (disch := omega) only [X_X3_truthOfTerm_16_s, mI_c, mR_c, mJ_c, sI_c, sJ_c, sR_c, hL.1, hL.2.1, hL.2.2, hC.1, hC.2.1, hC.2.2.1, n1, n2, n3, nI_add, sub1, x1, x2, x3, el, lT, lF, tT, tF, eF, pF, zT, m1F, vT, cI, true_and, and_true, true_implies, false_implies, not_false_eq_true, not_true_eq_false, forall_eq, implies_true]
          refine c_get hL hC (by omega) (by omega) ?_
          rw [ev]
          simp (disch := omega) only [X_X3_truthOfTerm_127, X_X3_truthOfTerm_139, mI_c, mR_c, mJ_c, sI_c, sJ_c, sR_c, hL.1, hL.2.1, hL.2.2, hC.1, hC.2.1, hC.2.2.1, k4, tv, eT, z1f, z00, bzT1, bzT0, n1, lT, lF, tT, tF, eF, pF, zT, m1F, vT, cI, true_and, and_true, true_implies, false_implies, not_false_eq_true, not_true_eq_false, forall_eq, implies_true]
          first | exact hQ | exact ⟨bz1, hQ⟩
        · simp (disch := omega) only [X_X12_told_27_s, X_X12_told_138, X_X12_told_211, X_X12_told_223, mI_m, mR_m, mJ_m, sI_m, sJ_m, hM.1, hM.2, hm.1, hm.2, k1, l3, evr, tv, n1, n16, pk_mul, nI_add, eT, z1f, z00, lT, lF, tT, tF, eF, pF, zT, m1F, vT, cI, true_and, and_true, true_implies, false_implies, not_false_eq_true, not_true_eq_false, forall_eq, implies_true]
          exact hQ
      · have tt := True.intro
        have tv := eq_false hv
        refine ⟨0, fun ρ1 Q hQ => Lw.fin fun K2 => ?_, fun κ1 Q hQ => Lw.fin fun K2 => ?_⟩
        · simp (disch := omega) only [X_X3_truthOfTerm_16_s, mI_c, mR_c, mJ_c, sI_c, sJ_c, sR_c, hL.1, hL.2.1, hL.2.2, hC.1, hC.2.1, hC.2.2.1, n1, n2, n3, nI_add, sub1, x1, x2, x3, el, lT, lF, tT, tF, eF, pF, zT, m1F, vT, cI, true_and, and_true, true_implies, false_implies, not_false_eq_true, not_true_eq_false, forall_eq, implies_true]
          refine c_get hL hC (by omega) (by omega) ?_
          rw [ev]
          simp (disch := omega) only [X_X3_truthOfTerm_127, X_X3_truthOfTerm_139, mI_c, mR_c, mJ_c, sI_c, sJ_c, sR_c, hL.1, hL.2.1, hL.2.2, hC.1, hC.2.1, hC.2.2.1, k4, tv, eT, z1f, z00, bzT1, bzT0, n1, lT, lF, tT, tF, eF, pF, zT, m1F, vT, cI, true_and, and_true, true_implies, false_implies, not_false_eq_true, not_true_eq_false, forall_eq, implies_true]
          first | exact hQ | exact ⟨bz1, hQ⟩
        · simp (disch := omega) only [X_X12_told_27_s, X_X12_told_138, X_X12_told_211, X_X12_told_223, mI_m, mR_m, mJ_m, sI_m, sJ_m, hM.1, hM.2, hm.1, hm.2, k1, l3, evr, tv, n1, n16, pk_mul, nI_add, eT, z1f, z00, lT, lF, tT, tF, eF, pF, zT, m1F, vT, cI, true_and, and_true, true_implies, false_implies, not_false_eq_true, not_true_eq_false, forall_eq, implies_true]
          exact hQ
    · have he0 : e = 0 := by omega
      subst he0
      have k4 : mI κ 9 (P j) = nI 4 := k4
      obtain ⟨k6, k7⟩ := a4 rfl
      obtain ⟨s, es⟩ : ∃ s, s = mI ρ 1342 j := ⟨_, rfl⟩
      obtain ⟨w, ew⟩ : ∃ w, w = mI ρ 1343 j := ⟨_, rfl⟩
      have es' := es.symm
      have ew' := ew.symm
      rw [es'] at k6
      rw [ew'] at k7
      by_cases h61 : s = 61
      · by_cases hv : v = w
        · have tt := True.intro
          have t61 := eq_true h61
          have tv := eq_true hv
          refine ⟨2, fun ρ1 Q hQ => Lw.fin fun K2 => ?_, fun κ1 Q hQ => Lw.fin fun K2 => ?_⟩
          · simp (disch := omega) only [X_X3_truthOfTerm_16_s, mI_c, mR_c, mJ_c, sI_c, sJ_c, sR_c, hL.1, hL.2.1, hL.2.2, hC.1, hC.2.1, hC.2.2.1, n1, n2, n3, nI_add, sub1, x1, x2, x3, el, lT, lF, tT, tF, eF, pF, zT, m1F, vT, cI, true_and, and_true, true_implies, false_implies, not_false_eq_true, not_true_eq_false, forall_eq, implies_true]
            refine c_get hL hC (by omega) (by omega) ?_
            rw [ev]
            simp (disch := omega) only [X_X3_truthOfTerm_127, X_X3_truthOfTerm_139, X_X3_compares, X_X3_compares_0, X_X3_compares_16, X_X3_compares_46, mI_c, mR_c, mJ_c, sI_c, sJ_c, sR_c, hL.1, hL.2.1, hL.2.2, hC.1, hC.2.1, hC.2.2.1, k4, k6, k7, t61, tv, eT, z1f, z00, bzT1, bzT0, n1, lT, lF, tT, tF, eF, pF, zT, m1F, vT, cI, true_and, and_true, true_implies, false_implies, not_false_eq_true, not_true_eq_false, forall_eq, implies_true]
            first | exact hQ | exact ⟨bz1, hQ⟩
          · simp (disch := omega) only [X_X12_told_27_s, X_X12_told_138, X_X12_told_211, X_X12_told_223, mI_m, mR_m, mJ_m, sI_m, sJ_m, hM.1, hM.2, hm.1, hm.2, k1, l3, es', ew', evr, t61, tv, n1, n16, pk_mul, nI_add, eT, z1f, z00, lT, lF, tT, tF, eF, pF, zT, m1F, vT, cI, true_and, and_true, true_implies, false_implies, not_false_eq_true, not_true_eq_false, forall_eq, implies_true]
            exact hQ
        · have tt := True.intro
          have t61 := eq_true h61
          have tv := eq_false hv
          refine ⟨0, fun ρ1 Q hQ => Lw.fin fun K2 => ?_, fun κ1 Q hQ => Lw.fin fun K2 => ?_⟩
          · simp (disch := omega) only [X_X3_truthOfTerm_16_s, mI_c, mR_c, mJ_c, sI_c, sJ_c, sR_c, hL.1, hL.2.1, hL.2.2, hC.1, hC.2.1, hC.2.2.1, n1, n2, n3, nI_add, sub1, x1, x2, x3, el, lT, lF, tT, tF, eF, pF, zT, m1F, vT, cI, true_and, and_true, true_implies, false_implies, not_false_eq_true, not_true_eq_false, forall_eq, implies_true]
            refine c_get hL hC (by omega) (by omega) ?_
            rw [ev]
            simp (disch := omega) only [X_X3_truthOfTerm_127, X_X3_truthOfTerm_139, X_X3_compares, X_X3_compares_0, X_X3_compares_16, X_X3_compares_46, mI_c, mR_c, mJ_c, sI_c, sJ_c, sR_c, hL.1, hL.2.1, hL.2.2, hC.1, hC.2.1, hC.2.2.1, k4, k6, k7, t61, tv, eT, z1f, z00, bzT1, bzT0, n1, lT, lF, tT, tF, eF, pF, zT, m1F, vT, cI, true_and, and_true, true_implies, false_implies, not_false_eq_true, not_true_eq_false, forall_eq, implies_true]
            first | exact hQ | exact ⟨bz1, hQ⟩
          · simp (disch := omega) only [X_X12_told_27_s, X_X12_told_138, X_X12_told_211, X_X12_told_223, mI_m, mR_m, mJ_m, sI_m, sJ_m, hM.1, hM.2, hm.1, hm.2, k1, l3, es', ew', evr, t61, tv, n1, n16, pk_mul, nI_add, eT, z1f, z00, lT, lF, tT, tF, eF, pF, zT, m1F, vT, cI, true_and, and_true, true_implies, false_implies, not_false_eq_true, not_true_eq_false, forall_eq, implies_true]
            exact hQ
      · by_cases h60 : s = 60
        · by_cases hv : w ≤ v
          · have tt := True.intro
            have t61 := eq_false h61
            have t60 := eq_true h60
            have tv := eq_true hv
            refine ⟨0, fun ρ1 Q hQ => Lw.fin fun K2 => ?_, fun κ1 Q hQ => Lw.fin fun K2 => ?_⟩
            · simp (disch := omega) only [X_X3_truthOfTerm_16_s, mI_c, mR_c, mJ_c, sI_c, sJ_c, sR_c, hL.1, hL.2.1, hL.2.2, hC.1, hC.2.1, hC.2.2.1, n1, n2, n3, nI_add, sub1, x1, x2, x3, el, lT, lF, tT, tF, eF, pF, zT, m1F, vT, cI, true_and, and_true, true_implies, false_implies, not_false_eq_true, not_true_eq_false, forall_eq, implies_true]
              refine c_get hL hC (by omega) (by omega) ?_
              rw [ev]
              simp (disch := omega) only [X_X3_truthOfTerm_127, X_X3_truthOfTerm_139, X_X3_compares, X_X3_compares_0, X_X3_compares_16, X_X3_compares_46, mI_c, mR_c, mJ_c, sI_c, sJ_c, sR_c, hL.1, hL.2.1, hL.2.2, hC.1, hC.2.1, hC.2.2.1, k4, k6, k7, t61, t60, tv, eT, z1f, z00, bzT1, bzT0, n1, lT, lF, tT, tF, eF, pF, zT, m1F, vT, cI, true_and, and_true, true_implies, false_implies, not_false_eq_true, not_true_eq_false, forall_eq, implies_true]
              first | exact hQ | exact ⟨bz1, hQ⟩
            · simp (disch := omega) only [X_X12_told_27_s, X_X12_told_138, X_X12_told_211, X_X12_told_223, mI_m, mR_m, mJ_m, sI_m, sJ_m, hM.1, hM.2, hm.1, hm.2, k1, l3, es', ew', evr, t61, t60, tv, n1, n16, pk_mul, nI_add, eT, z1f, z00, lT, lF, tT, tF, eF, pF, zT, m1F, vT, cI, true_and, and_true, true_implies, false_implies, not_false_eq_true, not_true_eq_false, forall_eq, implies_true]
              exact hQ
          · have tt := True.intro
            have t61 := eq_false h61
            have t60 := eq_true h60
            have tv := eq_false hv
            refine ⟨2, fun ρ1 Q hQ => Lw.fin fun K2 => ?_, fun κ1 Q hQ => Lw.fin fun K2 => ?_⟩
            · simp (disch := omega) only [X_X3_truthOfTerm_16_s, mI_c, mR_c, mJ_c, sI_c, sJ_c, sR_c, hL.1, hL.2.1, hL.2.2, hC.1, hC.2.1, hC.2.2.1, n1, n2, n3, nI_add, sub1, x1, x2, x3, el, lT, lF, tT, tF, eF, pF, zT, m1F, vT, cI, true_and, and_true, true_implies, false_implies, not_false_eq_true, not_true_eq_false, forall_eq, implies_true]
              refine c_get hL hC (by omega) (by omega) ?_
              rw [ev]
              simp (disch := omega) only [X_X3_truthOfTerm_127, X_X3_truthOfTerm_139, X_X3_compares, X_X3_compares_0, X_X3_compares_16, X_X3_compares_46, mI_c, mR_c, mJ_c, sI_c, sJ_c, sR_c, hL.1, hL.2.1, hL.2.2, hC.1, hC.2.1, hC.2.2.1, k4, k6, k7, t61, t60, tv, eT, z1f, z00, bzT1, bzT0, n1, lT, lF, tT, tF, eF, pF, zT, m1F, vT, cI, true_and, and_true, true_implies, false_implies, not_false_eq_true, not_true_eq_false, forall_eq, implies_true]
              first | exact hQ | exact ⟨bz1, hQ⟩
            · simp (disch := omega) only [X_X12_told_27_s, X_X12_told_138, X_X12_told_211, X_X12_told_223, mI_m, mR_m, mJ_m, sI_m, sJ_m, hM.1, hM.2, hm.1, hm.2, k1, l3, es', ew', evr, t61, t60, tv, n1, n16, pk_mul, nI_add, eT, z1f, z00, lT, lF, tT, tF, eF, pF, zT, m1F, vT, cI, true_and, and_true, true_implies, false_implies, not_false_eq_true, not_true_eq_false, forall_eq, implies_true]
              exact hQ
        · by_cases hv : v ≤ w
          · have tt := True.intro
            have t61 := eq_false h61
            have t60 := eq_false h60
            have tv := eq_true hv
            refine ⟨0, fun ρ1 Q hQ => Lw.fin fun K2 => ?_, fun κ1 Q hQ => Lw.fin fun K2 => ?_⟩
            · simp (disch := omega) only [X_X3_truthOfTerm_16_s, mI_c, mR_c, mJ_c, sI_c, sJ_c, sR_c, hL.1, hL.2.1, hL.2.2, hC.1, hC.2.1, hC.2.2.1, n1, n2, n3, nI_add, sub1, x1, x2, x3, el, lT, lF, tT, tF, eF, pF, zT, m1F, vT, cI, true_and, and_true, true_implies, false_implies, not_false_eq_true, not_true_eq_false, forall_eq, implies_true]
              refine c_get hL hC (by omega) (by omega) ?_
              rw [ev]
              simp (disch := omega) only [X_X3_truthOfTerm_127, X_X3_truthOfTerm_139, X_X3_compares, X_X3_compares_0, X_X3_compares_16, X_X3_compares_46, mI_c, mR_c, mJ_c, sI_c, sJ_c, sR_c, hL.1, hL.2.1, hL.2.2, hC.1, hC.2.1, hC.2.2.1, k4, k6, k7, t61, t60, tv, eT, z1f, z00, bzT1, bzT0, n1, lT, lF, tT, tF, eF, pF, zT, m1F, vT, cI, true_and, and_true, true_implies, false_implies, not_false_eq_true, not_true_eq_false, forall_eq, implies_true]
              first | exact hQ | exact ⟨bz1, hQ⟩
            · simp (disch := omega) only [X_X12_told_27_s, X_X12_told_138, X_X12_told_211, X_X12_told_223, mI_m, mR_m, mJ_m, sI_m, sJ_m, hM.1, hM.2, hm.1, hm.2, k1, l3, es', ew', evr, t61, t60, tv, n1, n16, pk_mul, nI_add, eT, z1f, z00, lT, lF, tT, tF, eF, pF, zT, m1F, vT, cI, true_and, and_true, true_implies, false_implies, not_false_eq_true, not_true_eq_false, forall_eq, implies_true]
              exact hQ
          · have tt := True.intro
            have t61 := eq_false h61
            have t60 := eq_false h60
            have tv := eq_false hv
            refine ⟨2, fun ρ1 Q hQ => Lw.fin fun K2 => ?_, fun κ1 Q hQ => Lw.fin fun K2 => ?_⟩
            · simp (disch := omega) only [X_X3_truthOfTerm_16_s, mI_c, mR_c, mJ_c, sI_c, sJ_c, sR_c, hL.1, hL.2.1, hL.2.2, hC.1, hC.2.1, hC.2.2.1, n1, n2, n3, nI_add, sub1, x1, x2, x3, el, lT, lF, tT, tF, eF, pF, zT, m1F, vT, cI, true_and, and_true, true_implies, false_implies, not_false_eq_true, not_true_eq_false, forall_eq, implies_true]
              refine c_get hL hC (by omega) (by omega) ?_
              rw [ev]
              simp (disch := omega) only [X_X3_truthOfTerm_127, X_X3_truthOfTerm_139, X_X3_compares, X_X3_compares_0, X_X3_compares_16, X_X3_compares_46, mI_c, mR_c, mJ_c, sI_c, sJ_c, sR_c, hL.1, hL.2.1, hL.2.2, hC.1, hC.2.1, hC.2.2.1, k4, k6, k7, t61, t60, tv, eT, z1f, z00, bzT1, bzT0, n1, lT, lF, tT, tF, eF, pF, zT, m1F, vT, cI, true_and, and_true, true_implies, false_implies, not_false_eq_true, not_true_eq_false, forall_eq, implies_true]
              first | exact hQ | exact ⟨bz1, hQ⟩
            · simp (disch := omega) only [X_X12_told_27_s, X_X12_told_138, X_X12_told_211, X_X12_told_223, mI_m, mR_m, mJ_m, sI_m, sJ_m, hM.1, hM.2, hm.1, hm.2, k1, l3, es', ew', evr, t61, t60, tv, n1, n16, pk_mul, nI_add, eT, z1f, z00, lT, lF, tT, tF, eF, pF, zT, m1F, vT, cI, true_and, and_true, true_implies, false_implies, not_false_eq_true, not_true_eq_false, forall_eq, implies_true]
              exact hQ
  | succ d ih =>
    intro q f i r hd hq hf hi hr hro ⟨cc, c1, c2, c3⟩
    obtain ⟨p1, m, p2, p3, p4, p5⟩ := hpt q (by omega)
    obtain ⟨m1, m2, m3, -⟩ := mem_inh xS p2 cc c1 c3
    have m16 := xS.m16 c1
    have N60 := (xR.1 f hf).2
    have ev : mI κ 274 (16 * (60 * f + i) + m) = mI ρ 1309 (16 * r + m) := hro.2.2.2.2 m (by omega)
    have ek : mI κ 272 (60 * f + i) = nI cc := hro.2.2.1.trans c2
    have el : mI κ 9 (P j + 2 + q) = nI m := (a3 q (by omega)).trans p3
    have hx := (xS.mem c1 m1).1
    obtain ⟨v, evv⟩ : ∃ v, v = mI ρ 1309 (16 * r + m) := ⟨_, rfl⟩
    have evr : mI ρ 1309 (16 * r + m) = v := evv.symm
    rw [evr] at ev
    have e90 : mI ρ 1290 (16 * cc + m) = 4 := m2.trans p4
    have e91 : mI ρ 1291 (16 * cc + m) = nI (cs (q + 1)) := m3.trans p5
    have ntn : cs (q + 1) < n := by
      obtain ⟨⟨kd, y1, y2, -, -, y5⟩, -⟩ := xS.2.2.2.2.2.2.2.2.2.1 (cs q) p1 m p2
      have k4 : kd = 4 := (eI (b := 4) (by omega) (by decide)).mp (y2.symm.trans p4)
      obtain ⟨t, t1, t2, -⟩ := y5 (by omega)
      by_cases hlt : q + 1 < cnt
      · exact (hpt (q + 1) hlt).1
      · rw [show q + 1 = cnt by omega, hcs]; exact hl.1
    have h40 := xS.1
    have rtl := xS.rt_lt (cs (q + 1)) ntn
    have goC : ∀ ρ1 (Q : Int32 → Mem → Prop) (K2 : Int32 × Int32 × Mem → Prop), ((v = 0 → Q 1 (mg κ ρ1)) ∧ (¬ v = 0 → X_X5_rowOf G (fun w16 s15 => ((w16 = (-1 : Int32) → Q (1 : Int32) s15) ∧ (¬ w16 = (-1 : Int32) → K2 (w16, (nI q + (1 : Int32)), s15)))) 13 (nI (rt (cs (q + 1)))) v (mg κ ρ1))) → X_X3_truthOfTerm_16_s G Q 8 13 (nI (P j)) (nI (cnt + 1)) K2 (nI (60 * f + i), nI q, mg κ ρ1) := fun ρ1 Q K2 hh => by
      simp (disch := omega) only [X_X3_truthOfTerm_16_s, X_X5_rowLedTo, X_X5_rowLedTo_0, X_X5_rowLedTo_28, mI_c, mR_c, mJ_c, sI_c, sJ_c, sR_c, hL.1, hL.2.1, hL.2.2, hC.1, hC.2.1, hC.2.2.1, n2, sub1', nI_add, el, ek, xS.2.1, (hG.s hs).1, lT, lF, tT, tF, eF, pF, zT, m1F, vT, cI, true_and, and_true, true_implies, false_implies, not_false_eq_true, not_true_eq_false, forall_eq, implies_true]
      have x0 : ¬ mR κ (sc + 5 + 5 * cc) m = 0 := by omega
      refine c_memberAt1 hG hC xS c1 m1 (brF x0 ?_)
      refine c_get (i := 60 * f + i) (m := m) hL hC (by omega) (by omega) ?_
      rw [ev]
      refine ⟨hh.1, fun e => ?_⟩
      have gx : gT G (mR κ (sc + 5 + 5 * cc) m) = 3 := by
        have h2 := (hG.s hs).2.2 (mR κ (sc + 5 + 5 * cc) m - (sc + 64)) (by omega)
        rw [show sc + 64 + (mR κ (sc + 5 + 5 * cc) m - (sc + 64)) = mR κ (sc + 5 + 5 * cc) m by omega] at h2
        exact h2
      have e8 : mI κ (mR κ (sc + 5 + 5 * cc) m) 8 = nI (cs (q + 1)) := ((xS.mem c1 m1).2.2.2.2.2.1 (by rw [e90]; decide)).trans e91
      rw [mR_c (by decide), xS.2.1, mI_c (by omega), e8]
      refine ⟨gx, (hG.s hs).1.1, c_rootOf1 hG hC xS ntn (c_get (i := 60 * f + i) (m := m) hL hC (by omega) (by omega) ?_)⟩
      rw [ev]
      exact hh.2 e
    have goM : ∀ κ1 (Q : Int32 → Mem → Prop) (K2 : Int32 × Int32 × Mem → Prop), ((v = 0 → Q 1 (mg κ1 ρ)) ∧ (¬ v = 0 → X_X12_rowOf G (fun w24 s23 => K2 (w24, (nI (fr + q) + (1 : Int32)), s23)) 1282 (nI (rt (cs (q + 1)))) v (mg κ1 ρ))) → X_X12_told_27_s G Q 1282 (nI j) (nI (fr + cnt)) K2 (nI r, nI (fr + q), mg κ1 ρ) := fun κ1 Q K2 hh => by
      simp (disch := omega) only [X_X12_told_27_s, mI_m, mR_m, mJ_m, sI_m, sJ_m, hM.1, hM.2, hm.1, hm.2, p3, n16, pk_mul, nI_add, evr, c2, e91, lT, lF, tT, tF, eF, pF, zT, m1F, vT, cI, true_and, and_true, true_implies, false_implies, not_false_eq_true, not_true_eq_false, forall_eq, implies_true]
      exact ⟨hh.1, fun e => m_rootOf hM hm xS ntn (hh.2 e)⟩
    by_cases hv : v = 0
    · exact ⟨1, fun ρ1 Q hQ => Lw.fin fun K2 => goC ρ1 Q K2 (brT hv hQ), fun κ1 Q hQ => Lw.fin fun K2 => goM κ1 Q K2 (brT hv hQ)⟩
    · obtain ⟨f', c', x', w1, w2, w3, w4, w5, w6, w7, w8, w9, w10⟩ := xY r hr
      have ecc : c' = cc := (eI (by omega) (by omega)).mp (w4.symm.trans c2)
      subst ecc
      obtain ⟨r', u1, u2, u3, c'', u4, u5, u6⟩ := (w10 m m1).2.2 e90 (by rw [evr]; exact hv) (cs (q + 1)) (by omega) e91
      rw [evr] at u3
      obtain ⟨f2, hf2, i2, hi2, hro2⟩ := xR.2.2.2.2.2.1 r' u1
      have ef : f2 = rt (cs (q + 1)) := (eI (by omega) (by omega)).mp (hro2.1.symm.trans u2)
      subst ef
      have c''n : c'' < n := by
        obtain ⟨f3, c3', x3', -, -, v1, v2, -⟩ := xY r' u1
        have := (eI (by omega) (by omega)).mp (v2.symm.trans u5)
        omega
      have ek2 : mI κ 271 (60 * rt (cs (q + 1)) + i2) = v := hro2.2.1.trans u3
      obtain ⟨vv, iC, iM⟩ := ih (q + 1) (rt (cs (q + 1))) i2 r' (by omega) (by omega) hf2 hi2 u1 hro2 ⟨c'', c''n, u5, u6⟩
      have N602 := (xR.1 _ hf2).2
      refine ⟨vv, fun ρ1 Q hQ => Lw.stp (b := (nI (60 * rt (cs (q + 1)) + i2), nI (q + 1), mg κ ρ1)) (fun K2 hK => goC ρ1 Q K2 (brF hv ?_)) (iC ρ1 Q hQ), fun κ1 Q hQ => Lw.stp (b := (nI r', nI (fr + (q + 1)), mg κ1 ρ)) (fun K2 hK => goM κ1 Q K2 (brF hv (m_rowOf1 hM hm xR u1 u2 u3 ?_))) (iM κ1 Q hQ)⟩
      · refine c_rowOf hL hC xR.1 hf2 v (fun i3 h1 h2 => ?_) (fun h => absurd ek2 (h i2 hi2))
        have e3 : i3 = i2 := by
          by_cases h : i3 = i2
          · exact h
          · exfalso
            rcases Nat.lt_or_gt_of_ne h with h | h
            · have := xR.2.2.2.1 _ hf2 i3 i2 h hi2
              rw [h2, ek2] at this; exact lt_ir this
            · have := xR.2.2.2.1 _ hf2 i2 i3 h h1
              rw [h2, ek2] at this; exact lt_ir this
        subst e3
        refine brF (mI1 (by omega)) ?_
        rw [nI_1]; exact hK
      · rw [nI_1, show fr + q + 1 = fr + (q + 1) by omega]; exact hK
end QEV
