theorem fill2 {σ : Mem} {a b lo hi : Nat} {g h : Nat → Int32} (hab : a ≠ b) (hl : lo ≤ hi) {v w : Int32} (hv : v = g hi) (hw : w = h hi) : sI (sI (sF (sF σ a lo hi g) b lo hi h) a hi v) b hi w = sF (sF σ a lo (hi + 1) g) b lo (hi + 1) h := by
  rw [sF_sw hab, sF_st hl hv, sF_st hl hw]
section LOAD2
variable {G : Lay} {nn sc n r0 : Nat} {mc rt hc K N us : Nat → Nat} {κ ρ κ1 ρ1 : Mem}
theorem m_copies (hM : LyM G) (hm : StM ρ) {Q : Mem → Prop} {p r : Nat} (hp : p < 240) (hr : r < 720) (k : Q (mg κ1 (sF (sF (sI (sI ρ 1322 p (mI ρ 1307 r)) 1323 p (mI ρ 1308 r)) 1324 (16 * p) (16 * p + 16) (fun j => mI ρ 1309 (16 * r + (j - 16 * p)))) 1325 (16 * p) (16 * p + 16) (fun j => mI ρ 1309 (16 * r + (j - 16 * p)))))) : X_X12_copies G Q 1282 (nI p) (nI r) (mg κ1 ρ) := by
  simp (disch := omega) only [X_X12_copies_0, X_X12_copies, X_X12_copies_26, mI_m, mR_m, mJ_m, sI_m, sJ_m, hM.1, hM.2, hm.1, hm.2, lT, lF, tT, tF, eF, pF, zT, m1F, vT, cI, true_and, and_true, true_implies, false_implies, not_false_eq_true, not_true_eq_false, forall_eq, implies_true, I_is, I_cl, I_sl, J_is, J_cl, J_sl, R_is, R_cl, R_sl, mI_sJ, mI_sR, mJ_sI, mJ_sR, mR_sI, mR_sJ]
  refine Lw.nat 16 (fun i x => x = (nI i, mg κ1 (sF (sF (sI (sI ρ 1322 p (mI ρ 1307 r)) 1323 p (mI ρ 1308 r)) 1324 (16 * p) (16 * p + i) (fun j => mI ρ 1309 (16 * r + (j - 16 * p)))) 1325 (16 * p) (16 * p + i) (fun j => mI ρ 1309 (16 * r + (j - 16 * p)))))) ?_ 0 (by omega) _ ?_
  · rintro K' i x hi rfl hk
    by_cases h : i < 16
    · simp (disch := omega) only [X_X12_copies_26_s, mI_m, mR_m, mJ_m, sI_m, sJ_m, hM.1, hM.2, hm.1, hm.2, nls, lT, lF, tT, tF, eF, pF, zT, e0F, m1F, vT, cI, nI_1, nI_add, pk_mul, true_and, and_true, true_implies, false_implies, not_false_eq_true, not_true_eq_false, bzT1, bzT0, m10, m1z, o0F, forall_eq, implies_true, if_true, if_false, pk_mul, I_is, I_cl, I_sl, J_is, J_cl, J_sl, R_is, R_cl, R_sl, mI_sJ, mI_sR, mJ_sI, mJ_sR, mR_sI, mR_sJ, sF_R, sF_cl]
      refine hk _ h ?_
      rw [fill2 (by decide) (by omega)]
      · rfl
      · show _ = mI ρ 1309 (16 * r + (16 * p + i - 16 * p))
        rw [show 16 * p + i - 16 * p = i by omega]
      · show _ = mI ρ 1309 (16 * r + (16 * p + i - 16 * p))
        rw [show 16 * p + i - 16 * p = i by omega]
    · obtain rfl : i = 16 := by omega
      simp (disch := omega) only [X_X12_copies_26_s, nls, lT, lF, tT, tF, eF, pF, zT, e0F, m1F, vT, cI, nI_1, nI_add, pk_mul, true_and, and_true, true_implies, false_implies, not_false_eq_true, not_true_eq_false, bzT1, bzT0, m10, m1z, o0F, forall_eq, implies_true, if_true, if_false]
      exact k
  · rw [Nat.add_zero, sF_0, sF_0]
    rfl
theorem m_load1 (hM : LyM G) (hm : StM ρ) (hR : RelR N r0 κ ρ) {u k r : Nat} (hu : u < 4) (hk : k < 60) (hr : r < r0) (s0 : mI ρ 1319 (60 * u + k) = 0) (e1 : mI ρ 1305 r = mI ρ 1320 (60 * u + k)) (e2 : mI ρ 1306 r = mI ρ 1321 (60 * u + k)) :
    ∃ ρ', RunM0 (fun Q σ => X_X12_load G Q 1282 (nI (60 * u + k)) σ) ρ ρ' ∧ StM ρ' ∧ mI ρ' 1319 (60 * u + k) = 1 ∧ mI ρ' 1320 (60 * u + k) = mI ρ 1320 (60 * u + k) ∧ mI ρ' 1321 (60 * u + k) = mI ρ 1321 (60 * u + k) ∧ mI ρ' 1322 (60 * u + k) = mI ρ 1307 r ∧ mI ρ' 1323 (60 * u + k) = mI ρ 1308 r ∧ (∀ m, m < 16 → mI ρ' 1324 (16 * (60 * u + k) + m) = mI ρ 1309 (16 * r + m) ∧ mI ρ' 1325 (16 * (60 * u + k) + m) = mI ρ 1309 (16 * r + m)) ∧ mI ρ' 1318 u = mI ρ 1318 u + 1 ∧ Eqv (ldM u k) ρ ρ' := by
  have h720 := hR.le
  have ed : (60 * u + k) / 60 = u := by omega
  refine ⟨?k, fun κ1 Q hQ => ?run, ?st, ?a, ?b, ?c, ?d, ?e, ?f, ?g, ?h⟩
  case run =>
    simp (disch := omega) only [X_X12_load_0, X_X12_load, mI_m, mR_m, mJ_m, sI_m, sJ_m, hM.1, hM.2, hm.1, hm.2, lT, lF, tT, tF, eF, pF, zT, m1F, vT, cI, true_and, and_true, true_implies, false_implies, not_false_eq_true, not_true_eq_false, forall_eq, implies_true, s0]
    refine m_rowOf1 hM hm hR hr e1 e2 (brT (Int32.not_lt.mp (pI (by omega))) ?_)
    simp (disch := omega) only [mI_m, mR_m, mJ_m, sI_m, sJ_m, hM.1, hM.2, hm.1, hm.2, lT, lF, tT, tF, eF, pF, zT, m1F, vT, cI, true_and, and_true, true_implies, false_implies, not_false_eq_true, not_true_eq_false, forall_eq, implies_true, nls, dI, ed, I_is, I_cl, I_sl, J_is, J_cl, J_sl, R_is, R_cl, R_sl, mI_sJ, mI_sR, mJ_sI, mJ_sR, mR_sI, mR_sJ]
    refine m_copies hM ?_ (by omega) (by omega) ?_
    · exact hm
    · exact hQ
  case st => exact hm
  case a => simp (disch := omega) only [I_is, I_cl, I_sl, J_is, J_cl, J_sl, R_is, R_cl, R_sl, mI_sJ, mI_sR, mJ_sI, mJ_sR, mR_sI, mR_sJ, sF_cl]
  case b => simp (disch := omega) only [I_is, I_cl, I_sl, J_is, J_cl, J_sl, R_is, R_cl, R_sl, mI_sJ, mI_sR, mJ_sI, mJ_sR, mR_sI, mR_sJ, sF_cl]
  case c => simp (disch := omega) only [I_is, I_cl, I_sl, J_is, J_cl, J_sl, R_is, R_cl, R_sl, mI_sJ, mI_sR, mJ_sI, mJ_sR, mR_sI, mR_sJ, sF_cl]
  case d => simp (disch := omega) only [I_is, I_cl, I_sl, J_is, J_cl, J_sl, R_is, R_cl, R_sl, mI_sJ, mI_sR, mJ_sI, mJ_sR, mR_sI, mR_sJ, sF_cl]
  case e => simp (disch := omega) only [I_is, I_cl, I_sl, J_is, J_cl, J_sl, R_is, R_cl, R_sl, mI_sJ, mI_sR, mJ_sI, mJ_sR, mR_sI, mR_sJ, sF_cl]
  case f =>
    intro m hm
    simp (disch := omega) only [I_is, I_cl, I_sl, J_is, J_cl, J_sl, R_is, R_cl, R_sl, mI_sJ, mI_sR, mJ_sI, mJ_sR, mR_sI, mR_sJ, sF_cl, sF_in]
    rw [show 16 * (60 * u + k) + m - 16 * (60 * u + k) = m by omega]
    exact ⟨rfl, rfl⟩
  case g => simp (disch := omega) only [I_is, I_cl, I_sl, J_is, J_cl, J_sl, R_is, R_cl, R_sl, mI_sJ, mI_sR, mJ_sI, mJ_sR, mR_sI, mR_sJ, sF_cl]
  case h =>
    refine ((((((Eqv.rf.sI ?_ _).sI ?_ _).sI ?_ _).sI ?_ _).sF ?_).sF ?_)
    · exact fun h => h (Or.inl (Or.inl ⟨by decide, by decide, rfl⟩))
    · exact fun h => h (Or.inr ⟨rfl, rfl⟩)
    · exact fun h => h (Or.inl (Or.inl ⟨by decide, by decide, rfl⟩))
    · exact fun h => h (Or.inl (Or.inl ⟨by decide, by decide, rfl⟩))
    · exact fun q q1 q2 h => h (Or.inl (Or.inr ⟨by decide, by decide, q1, q2⟩))
    · exact fun q q1 q2 h => h (Or.inl (Or.inr ⟨by decide, by decide, q1, q2⟩))
theorem c_load0 (hG : Ly G) (hC : StC κ) (hR : RelR N r0 κ ρ) {u k f : Nat} {x : Int32} (hu : u < 4) (hk : k < 60) (hf : f < 12) (s0 : mI κ (537 + 184 * u + 3 * k) 1 = 0) (s2 : mI κ (537 + 184 * u + 3 * k) 2 = nI f) (s3 : mI κ (537 + 184 * u + 3 * k) 3 = x) (e : ∀ i, i < N f → mI κ 271 (60 * f + i) ≠ x) : RunC0 (fun Q σ => X_X9_loadStand G Q (533 + 184 * u) (537 + 184 * u + 3 * k) σ) κ (sI κ (537 + 184 * u + 3 * k) 1 4) := by
  intro ρ1 Q hQ
  have hL := hG.1
  simp (disch := omega) only [X_X9_loadStand_0, X_X9_loadStand, mI_c, mR_c, mJ_c, sI_c, sJ_c, sR_c, hL.1, hL.2.1, hL.2.2, hC.1, hC.2.1, hC.2.2.1, s0, s2, s3, true_and]
  refine brT trivial (c_rowOf0 hL hC hR hf e (brT rfl ?_))
  simp (disch := omega) only [mI_c, mR_c, mJ_c, sI_c, sJ_c, sR_c, hL.1, hL.2.1, hL.2.2, hC.1, hC.2.1, hC.2.2.1, forall_eq]
  exact hQ
theorem m_load0 (hM : LyM G) (hm : StM ρ) (hR : RelR N r0 κ ρ) {p : Nat} (hp : p < 240) (s0 : mI ρ 1319 p = 0) (e : ∀ r, r < r0 → ¬ (mI ρ 1305 r = mI ρ 1320 p ∧ mI ρ 1306 r = mI ρ 1321 p)) : RunM0 (fun Q σ => X_X12_load G Q 1282 (nI p) σ) ρ (sI ρ 1319 p 4) := by
  intro κ1 Q hQ
  simp (disch := omega) only [X_X12_load_0, X_X12_load, mI_m, mR_m, mJ_m, sI_m, sJ_m, hM.1, hM.2, hm.1, hm.2, lT, lF, tT, tF, eF, pF, zT, m1F, vT, cI, true_and, and_true, true_implies, false_implies, not_false_eq_true, not_true_eq_false, forall_eq, implies_true, s0]
  refine m_rowOf0 hM hm hR.2.1 hR.le e (brF (by decide) ?_)
  simp (disch := omega) only [mI_m, mR_m, mJ_m, sI_m, sJ_m, hM.1, hM.2, hm.1, hm.2, lT, lF, tT, tF, eF, pF, zT, m1F, vT, cI, true_and, and_true, true_implies, false_implies, not_false_eq_true, not_true_eq_false, forall_eq, implies_true]
  exact hQ
theorem c_loadN (hG : Ly G) {u k : Nat} (hu : u < 4) (hk : k < 60) (s0 : mI κ (537 + 184 * u + 3 * k) 1 ≠ 0) : RunC0 (fun Q σ => X_X9_loadStand G Q (533 + 184 * u) (537 + 184 * u + 3 * k) σ) κ κ := by
  intro ρ1 Q hQ
  have hL := hG.1
  simp (disch := omega) only [X_X9_loadStand_0, X_X9_loadStand, mI_c, hL.2.2, true_and]
  exact brF s0 hQ
theorem m_loadN (hM : LyM G) (hm : StM ρ) {p : Nat} (hp : p < 240) (s0 : mI ρ 1319 p ≠ 0) : RunM0 (fun Q σ => X_X12_load G Q 1282 (nI p) σ) ρ ρ := by
  intro κ1 Q hQ
  simp (disch := omega) only [X_X12_load_0, X_X12_load, mI_m, mR_m, mJ_m, sI_m, sJ_m, hM.1, hM.2, hm.1, hm.2, lT, lF, tT, tF, eF, pF, zT, m1F, vT, cI, true_and, and_true, true_implies, false_implies, not_false_eq_true, not_true_eq_false, forall_eq, implies_true]
  exact brF s0 hQ
end LOAD2
