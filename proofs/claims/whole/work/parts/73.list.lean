section LST
variable {G : Lay} {nn nn' sc n r0 : Nat} {mc rt hc K K' N us : Nat → Nat} {κ κ' ρ ρ' κ1 ρ1 : Mem} {u k : Nat}
theorem s1I {p : Nat} (h : 0 < p) : nI p - 1 = nI (p - 1) := pk_sub (a := p) (b := 1) h
theorem d1I {p : Nat} (h : 0 < p) : nI p + (-1) = nI (p - 1) := sb_m1 h
theorem le0T : (nI 0 ≤ 0) = True := eq_true (by decide)
theorem le0F {p : Nat} (h : 0 < p) (h2 : p < 2147483648) : (nI p ≤ 0) = False := lF (b := 0) h h2
theorem c_enlist (hL : LyC G) (hC : StC κ) {Q : Mem → Prop} (hu : u < 4) {t p : Nat} {x : Int32} (ht : t < 120) (hp : p ≤ t) (h1 : ∀ i, p ≤ i → i < t → x < mI κ (536 + 184 * u) i) (h2 : p = 0 ∨ ¬ x < mI κ (536 + 184 * u) (p - 1)) (q : Q (mg (sA κ (536 + 184 * u) (insAt (mI κ (536 + 184 * u)) t p x)) ρ1)) : X_X9_enlist G Q (533 + 184 * u) x (nI t) (mg κ ρ1) := by
  simp only [X_X9_enlist_38, X_X9_enlist_0, X_X9_enlist, X_X9_enlist_2]
  refine Lw.nat (t - p) (fun i y => y = (nI (t - i), mg (sA κ (536 + 184 * u) (shf (mI κ (536 + 184 * u)) t (t - i))) ρ1)) ?_ 0 (by omega) _ (by rw [Nat.sub_zero, shf_t, sA_id])
  rintro K' i y hi rfl hk'
  by_cases h : i < t - p
  · have e := h1 (t - i - 1) (by omega) (by omega)
    simp (disch := omega) only [X_X9_enlist_2_s, mI_c, mR_c, mJ_c, sI_c, sJ_c, sR_c, hL.1, hL.2.1, hL.2.2, hC.1, hC.2.1, hC.2.2.1, lT, lF, tT, tF, eF, pF, zT, m1F, vT, cI, true_and, and_true, true_implies, false_implies, not_false_eq_true, not_true_eq_false, forall_eq, implies_true, s1I, d1I, le0F, sA_R, sA_is, shf_lo]
    refine brF (Int32.not_le.mpr e) (hk' _ h ?_)
    rw [sA_w]
    have := shf_st (f := mI κ (536 + 184 * u)) (p := t - i) (t := t) (by omega) (by omega)
    rw [shf_lo (by omega)] at this
    rw [this, show t - (i + 1) = t - i - 1 by omega]
  · obtain rfl : i = t - p := by omega
    have ep : t - (t - p) = p := by omega
    rw [ep]
    have fin : X_X9_enlist_38 G Q (533 + 184 * u) x (nI p) (mg (sA κ (536 + 184 * u) (shf (mI κ (536 + 184 * u)) t p)) ρ1) := by
      simp (disch := omega) only [X_X9_enlist_38, mI_c, mR_c, mJ_c, sI_c, sJ_c, sR_c, hL.1, hL.2.1, hL.2.2, hC.1, hC.2.1, hC.2.2.1, lT, lF, tT, tF, eF, pF, zT, m1F, vT, cI, true_and, and_true, true_implies, false_implies, not_false_eq_true, not_true_eq_false, forall_eq, implies_true, sA_R, sA_w, shf_in]
      exact q
    by_cases p0 : p = 0
    · subst p0
      exact brT (by decide) fin
    · have e := h2.resolve_left p0
      simp (disch := omega) only [X_X9_enlist_2_s, mI_c, mR_c, mJ_c, sI_c, sJ_c, sR_c, hL.1, hL.2.1, hL.2.2, hC.1, hC.2.1, hC.2.2.1, lT, lF, tT, tF, eF, pF, zT, m1F, vT, cI, true_and, and_true, true_implies, false_implies, not_false_eq_true, not_true_eq_false, forall_eq, implies_true, s1I, d1I, le0F, sA_R, sA_is, shf_lo]
      exact brT (Int32.not_lt.mp e) fin
theorem m_addKey (hM : LyM G) (hm : StM ρ) {Q : Mem → Prop} {t p : Nat} {x : Int32} (ht : t < 130) (et : mI ρ 1282 60 = nI t) (hp : p ≤ t) (h1 : ∀ i, p ≤ i → i < t → x < mI ρ 1327 i) (h2 : p = 0 ∨ ¬ x < mI ρ 1327 (p - 1)) (q : Q (mg κ1 (sI (sA ρ 1327 (insAt (mI ρ 1327) t p x)) 1282 60 (nI (t + 1))))) : X_X12_addKey G Q 1282 x (mg κ1 ρ) := by
  simp (disch := omega) only [X_X12_addKey_41, X_X12_addKey_0, X_X12_addKey, X_X12_addKey_5, mI_m, mR_m, mJ_m, sI_m, sJ_m, hM.1, hM.2, hm.1, hm.2, lT, lF, tT, tF, eF, pF, zT, m1F, vT, cI, true_and, and_true, true_implies, false_implies, not_false_eq_true, not_true_eq_false, forall_eq, implies_true, et]
  refine Lw.nat (t - p) (fun i y => y = (nI (t - i), mg κ1 (sA ρ 1327 (shf (mI ρ 1327) t (t - i))))) ?_ 0 (by omega) _ (by rw [Nat.sub_zero, shf_t, sA_id])
  rintro K' i y hi rfl hk'
  by_cases h : i < t - p
  · have e := h1 (t - i - 1) (by omega) (by omega)
    simp (disch := omega) only [X_X12_addKey_5_s, mI_m, mR_m, mJ_m, sI_m, sJ_m, hM.1, hM.2, hm.1, hm.2, lT, lF, tT, tF, eF, pF, zT, m1F, vT, cI, true_and, and_true, true_implies, false_implies, not_false_eq_true, not_true_eq_false, forall_eq, implies_true, s1I, d1I, le0F, sA_R, sA_is, shf_lo]
    refine brF (Int32.not_le.mpr e) (hk' _ h ?_)
    rw [sA_w]
    have := shf_st (f := mI ρ 1327) (p := t - i) (t := t) (by omega) (by omega)
    rw [shf_lo (by omega)] at this
    rw [this, show t - (i + 1) = t - i - 1 by omega]
  · obtain rfl : i = t - p := by omega
    have ep : t - (t - p) = p := by omega
    rw [ep]
    have fin : X_X12_addKey_41 G Q 1282 x (nI p) (mg κ1 (sA ρ 1327 (shf (mI ρ 1327) t p))) := by
      simp (disch := omega) only [X_X12_addKey_41, mI_m, mR_m, mJ_m, sI_m, sJ_m, hM.1, hM.2, hm.1, hm.2, lT, lF, tT, tF, eF, pF, zT, m1F, vT, cI, true_and, and_true, true_implies, false_implies, not_false_eq_true, not_true_eq_false, forall_eq, implies_true, sA_R, sA_w, shf_in, sA_cl, et, nI_1]
      exact q
    by_cases p0 : p = 0
    · subst p0
      exact brT (by decide) fin
    · have e := h2.resolve_left p0
      simp (disch := omega) only [X_X12_addKey_5_s, mI_m, mR_m, mJ_m, sI_m, sJ_m, hM.1, hM.2, hm.1, hm.2, lT, lF, tT, tF, eF, pF, zT, m1F, vT, cI, true_and, and_true, true_implies, false_implies, not_false_eq_true, not_true_eq_false, forall_eq, implies_true, s1I, d1I, le0F, sA_R, sA_is, shf_lo]
      exact brT (Int32.not_lt.mp e) fin
/-- the row tells of itself what is in a list: no object of the unit, or a stand -/
def told (us : Nat → Nat) (ρ : Mem) (u : Nat) (f x : Int32) : Prop := ∀ j, j < us u → mI ρ 1320 (60 * u + j) = f → mI ρ 1321 (60 * u + j) = x → mI ρ 1319 (60 * u + j) = 0
theorem c_told (hG : Ly G) (hA : RelA nn sc n mc rt hc K N r0 us κ ρ) {Q : Int32 → Mem → Prop} (hu : u < 4) (ho : mI ρ 1316 u = 1) {f x : Int32} (k1 : told us ρ u f x → Q 1 (mg κ ρ1)) (k0 : ¬ told us ρ u f x → Q 0 (mg κ ρ1)) : X_X9_isToldByRow G Q (533 + 184 * u) f x (mg κ ρ1) := by
  have hL := hG.1
  obtain ⟨⟨hC, hm, hNu⟩, xT, xF, xS, xN, xK, xR, xU, xW, xD, xY, xZ⟩ := id hA
  obtain ⟨o1, o2, o3, o4, o5⟩ := xU.op hu ho
  simp (disch := omega) only [X_X9_isToldByRow_23, X_X9_isToldByRow_18, X_X9_isToldByRow_0, X_X9_isToldByRow, hL.2.1, true_and, bzT1, bzT0]
  rcases objCase us ρ u f x with ⟨k, k1', k2, k3, k4⟩ | h
  · refine c_thingFor1 hL hC xU hu ho k1' k2 k3 k4 (brF (by omega) ?_)
    simp (disch := omega) only [mI_c, hL.2.2, true_and, (o5 k k1').1]
    refine ⟨fun e => k1 (fun j hj e1 e2 => ?_), fun e => k0 (fun h => e (h k k1' k2 k3))⟩
    rw [xZ.2.1 u hu ho j k hj k1' (e1.trans k2.symm) (e2.trans k3.symm)]
    exact e
  · exact c_thingFor0 hL hC xU hu ho h (brT rfl (k1 (fun j hj e1 e2 => absurd ⟨e1, e2⟩ (h j hj))))
/-- the scratch of a list leaves all as it is -/
theorem RelA.scL (hA : RelA nn sc n mc rt hc K N r0 us κ ρ) (hu : u < 4) (a : Nat → Int32) : RelA nn sc n mc rt hc K N r0 us (sA κ (536 + 184 * u) a) ρ := by
  have hs2 := hA.2.2.2.1.s2
  refine hA.fr (hA.1.1.wA _ _) hA.1.2.1 (Eqv.rf.sA fun k hh => ?_) Eqv.rf (Nat.le_refl _)
  rcases hh with hh | hh | hh | hh | hh | hh | hh | hh | hh
  all_goals first | (obtain ⟨u', hu', hh | ⟨j', hj', hh⟩⟩ := hh <;> omega) | (obtain ⟨u', j', hu', hj', e1', e2'⟩ := hh <;> omega) | (simp only [tC, fC, sCc, kC, rC, wC, dC] at hh; omega)
theorem RelA.scM (hA : RelA nn sc n mc rt hc K N r0 us κ ρ) (a : Nat → Int32) (v : Int32) : RelA nn sc n mc rt hc K N r0 us κ (sI (sA ρ 1327 a) 1282 60 v) := by
  refine hA.fr hA.1.1 ((hA.1.2.1.wA _ _).wI _ _ _) Eqv.rf ((Eqv.rf.sA fun k hh => ?_).sI (fun hh => ?_) _) (Nat.le_refl _)
  all_goals
    rcases hh with hh | hh | hh | hh | hh | hh | hh | hh
    all_goals (simp only [tM, fM, sM, kM, rM, uM, wM, dM] at hh; omega)
theorem c_firstOf {Q : Int32 → Mem → Prop} {f : Nat} (hf : f < 12) {σ : Mem} (q : Q (nI (60 * f)) σ) : X_X5_firstOf G Q 13 (nI f) σ := by
  simp (disch := omega) only [X_X5_firstOf_18, X_X5_firstOf_10, X_X5_firstOf_0, X_X5_firstOf, nls, lT, lF, tT, tF, eF, pF, zT, e0F, m1F, vT, cI, nI_1, nI_add, pk_mul, true_and, and_true, true_implies, false_implies, not_false_eq_true, not_true_eq_false, bzT1, bzT0, m10, m1z, o0F, forall_eq, implies_true, if_true, if_false, Nat.mul_comm f 60]
  exact q
theorem c_endOf (hL : LyC G) (hC : StC κ) (hR : RelR N r0 κ ρ) {Q : Int32 → Mem → Prop} {f : Nat} (hf : f < 12) (q : Q (nI (60 * f + N f)) (mg κ ρ1)) : X_X5_endOf G Q 13 (nI f) (mg κ ρ1) := by
  have h60 := (hR.1 f hf).2
  simp (disch := omega) only [X_X5_endOf_25, X_X5_endOf_10, X_X5_endOf_0, X_X5_endOf, mI_c, mR_c, mJ_c, sI_c, sJ_c, sR_c, hL.1, hL.2.1, hL.2.2, hC.1, hC.2.1, hC.2.2.1, nls, lT, lF, tT, tF, eF, pF, zT, e0F, m1F, vT, cI, nI_1, nI_add, pk_mul, true_and, and_true, true_implies, false_implies, not_false_eq_true, not_true_eq_false, bzT1, bzT0, m10, m1z, o0F, forall_eq, implies_true, if_true, if_false, (hR.1 f hf).1, Nat.mul_comm f 60]
  exact q
theorem c_get (hL : LyC G) (hC : StC κ) {Q : Int32 → Mem → Prop} {i m : Nat} (hi : i < 720) (hm : m < 16) (q : Q (mI κ 274 (16 * i + m)) (mg κ ρ1)) : X_X5_get G Q 13 (nI i) (nI m) (mg κ ρ1) := by
  simp (disch := omega) only [X_X5_get_0, X_X5_get, mI_c, mR_c, mJ_c, sI_c, sJ_c, sR_c, hL.1, hL.2.1, hL.2.2, hC.1, hC.2.1, hC.2.2.1, nls, lT, lF, tT, tF, eF, pF, zT, e0F, m1F, vT, cI, nI_1, nI_add, pk_mul, true_and, and_true, true_implies, false_implies, not_false_eq_true, not_true_eq_false, bzT1, bzT0, m10, m1z, o0F, forall_eq, implies_true, if_true, if_false, Nat.mul_comm i 16]
  exact q
end LST
