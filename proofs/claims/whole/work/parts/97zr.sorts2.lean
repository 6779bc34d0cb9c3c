/-! lists and names, side by side -/
section RSORT2
variable {G : Lay} {κ0 ρ0 κa ρa κ ρ : Mem} {sd z T i c nw nw' x k kd f lo : Nat} {B : Nat → Nat} {mc rt hc ow tb : Nat → Nat}
theorem j_nam (hG : Ly G) (hR : DRf sd (c + 1) nw mc rt hc ow tb κa ρa) (h : MbS κ0 ρ0 sd B z T κa ρa c (mc c) (tb (c + 1)) nw x k κ ρ i nw') (hF : Fld x k κ ρ) (hlo : lo ≤ i) (ne : ∀ j, j = 6 ∨ j = 7 ∨ j = 12 ∨ j = 13 ∨ j = 14 → ¬ twd B z (pos B z i) = nI j) : Jo κ0 ρ0 sd (fun Q σ => X_X0_readSort G (RSq G Q) 7 x σ) (fun Q σ => X_X12_toldWord G (RMq G Q (nI (13 + c)) (nI k)) 1282 σ) (MPost κ0 ρ0 sd B z T κa lo c mc rt hc ow tb) κ ρ := by
  have hL := hG.1
  have hM := hG.2.2.2
  have gx := h.gx hG
  obtain ⟨hP, ⟨y1, y2⟩, ⟨f1, f2, f3⟩, ⟨⟨g1, g2⟩, g3⟩, ⟨l1, l2, l3, l4⟩, b1, b2, b3, b4, b5⟩ := id h
  obtain ⟨⟨hC, hm⟩, ⟨hTC, hTM⟩, -, h71, hs⟩ := id hP
  have hz := hTC.zz
  have stC : ∀ ρ1 (Q : Int32 → Mem → Prop), X_X8_expects G (fun w19 s18 => ((w19 = 0 → X_X0_readSort_122 G (RSq G Q) s18) ∧ (¬ w19 = 0 → X_X0_readNames G (fun w21 s20 => ((w21 = 0 → X_X0_readSort_122 G (RSq G Q) s20) ∧ (¬ w21 = 0 → X_X0_readSort_124 G (RSq G Q) 7 x s20))) 7 x s18))) 3 (40 : Int64) (mg κ ρ1) → X_X0_readSort G (RSq G Q) 7 x (mg κ ρ1) := fun ρ1 Q hh => by
    simp (disch := omega) only [X_X0_readSort, X_X0_readSort_0, mI_c, mR_c, mJ_c, sI_c, sJ_c, sR_c, hL.1, hL.2.1, hL.2.2, hC.1, hC.2.1, hC.2.2.1, lT, lF, tT, tF, eF, pF, zT, m1F, vT, cI, true_and, and_true, true_implies, false_implies, not_false_eq_true, not_true_eq_false, forall_eq, implies_true]
    refine c_takes0 hL hC hTC (nK (k := 6) (ne 6 (by omega)) (by decide) rfl) (br0 ?_)
    simp (disch := omega) only [mI_c, mR_c, mJ_c, sI_c, sJ_c, sR_c, hL.1, hL.2.1, hL.2.2, hC.1, hC.2.1, hC.2.2.1, lT, lF, tT, tF, eF, pF, zT, m1F, vT, cI, true_and, and_true, true_implies, false_implies, not_false_eq_true, not_true_eq_false, forall_eq, implies_true]
    refine c_takes0 hL hC hTC (nK (k := 7) (ne 7 (by omega)) (by decide) rfl) (br0 ?_)
    simp (disch := omega) only [mI_c, mR_c, mJ_c, sI_c, sJ_c, sR_c, hL.1, hL.2.1, hL.2.2, hC.1, hC.2.1, hC.2.2.1, lT, lF, tT, tF, eF, pF, zT, m1F, vT, cI, true_and, and_true, true_implies, false_implies, not_false_eq_true, not_true_eq_false, forall_eq, implies_true]
    refine c_takes0 hL hC hTC (nK (k := 12) (ne 12 (by omega)) (by decide) rfl) (br0 ?_)
    simp (disch := omega) only [mI_c, mR_c, mJ_c, sI_c, sJ_c, sR_c, hL.1, hL.2.1, hL.2.2, hC.1, hC.2.1, hC.2.2.1, lT, lF, tT, tF, eF, pF, zT, m1F, vT, cI, true_and, and_true, true_implies, false_implies, not_false_eq_true, not_true_eq_false, forall_eq, implies_true]
    refine c_takes0 hL hC hTC (nK (k := 13) (ne 13 (by omega)) (by decide) rfl) (br0 ?_)
    simp (disch := omega) only [mI_c, mR_c, mJ_c, sI_c, sJ_c, sR_c, hL.1, hL.2.1, hL.2.2, hC.1, hC.2.1, hC.2.2.1, lT, lF, tT, tF, eF, pF, zT, m1F, vT, cI, true_and, and_true, true_implies, false_implies, not_false_eq_true, not_true_eq_false, forall_eq, implies_true]
    refine c_takes0 hL hC hTC (nK (k := 14) (ne 14 (by omega)) (by decide) rfl) (br0 ?_)
    simp (disch := omega) only [mI_c, mR_c, mJ_c, sI_c, sJ_c, sR_c, hL.1, hL.2.1, hL.2.2, hC.1, hC.2.1, hC.2.2.1, lT, lF, tT, tF, eF, pF, zT, m1F, vT, cI, true_and, and_true, true_implies, false_implies, not_false_eq_true, not_true_eq_false, forall_eq, implies_true]
    exact hh
  have stM : ∀ κ1 (Q : Int32 → Mem → Prop), X_X12_readNames G (fun w35 s34 => ((w35 = 0 → (bz (0 : Int32) ∧ Q (0 : Int32) s34)) ∧ (¬ w35 = 0 → X_X12_readMember_350 G Q 1282 (nI (13 + c)) (nI k) s34))) 1282 (nI k) (mg κ1 ρ) → X_X12_toldWord G (RMq G Q (nI (13 + c)) (nI k)) 1282 (mg κ1 ρ) := fun κ1 Q hh => m_toldWord hM hTM (brF (ne 6 (by omega)) (brF (ne 7 (by omega)) (brF (ne 12 (by omega)) (brF (ne 13 (by omega)) (brF (ne 14 (by omega)) hh)))))
  by_cases ap : sgA B z (pos B z i) 40
  · have hi : i < T := hTC.lt (by rw [ap.1]; decide)
    obtain ⟨κb, ekb⟩ : ∃ κb, κb = sI (sI (psC κ i) x 2 3) x 4 (nI nw') := ⟨_, rfl⟩
    obtain ⟨ρb, erb⟩ : ∃ ρb, ρb = sI (sI ρ 1290 k 3) 1292 k (nI (1600 + nw')) := ⟨_, rfl⟩
    have h1 : MbS κ0 ρ0 sd B z T κa ρa c (mc c) (tb (c + 1)) nw x k κ ρb i nw' := by
      subst erb
      exact h.wr hC ((hm.wI _ _ _).wI _ _ _) Eqv.rf ((Eqv.wI (fun hh => hh (by omega)) _).sI (fun hh => hh (by omega)) _)
    have hmb : StM ρb := by subst erb; exact (hm.wI _ _ _).wI _ _ _
    obtain ⟨⟨-, ⟨-, t1⟩, -⟩, -⟩ := id h1
    obtain ⟨ρ2, r2, s2, e2, t2⟩ := m_adv hM hmb hTC t1 hi
    have h2 := h1.ps hi s2 e2 t2
    have h3 : MbS κ0 ρ0 sd B z T κa ρa c (mc c) (tb (c + 1)) nw x k κb ρ2 (i + 1) nw' := by
      subst ekb
      exact h2.wr (((hC.wI _ _ _).wI _ _ _).wI _ _ _) s2 ((Eqv.wI (fun hh => hh (by omega)) _).sI (fun hh => hh (by omega)) _) Eqv.rf
    obtain ⟨hP3, ⟨u1, u2⟩, ⟨v1, v2, v3⟩, ⟨⟨w1, w2⟩, w3⟩, ⟨j1, j2, j3, j4⟩, -⟩ := id h3
    have q2 : ∀ a, 1289 ≤ a → a ≤ 1300 → mI ρ2 a k = mI ρb a k := fun a a1 a2 => e2.I (by unfold avM; omega)
    have hN : NI sd x k nw' κb ρ2 0 := by
      refine ⟨⟨j3, ?_, ?_⟩, ⟨j4, ?_, ?_⟩, fun j hj => by omega, fun a b ha => by omega⟩
      · subst ekb; simp (disch := omega) only [I_is, I_cl, I_sl, J_is, J_cl, J_sl, R_is, R_cl, R_sl, mI_sJ, mI_sR, mJ_sI, mJ_sR, mR_sI, mR_sJ]; exact hF.2.1
      · subst ekb; exact I_is _ _ _ _
      · rw [q2 1293 (by decide) (by decide)]; subst erb; simp (disch := omega) only [I_is, I_cl, I_sl, J_is, J_cl, J_sl, R_is, R_cl, R_sl, mI_sJ, mI_sR, mJ_sI, mJ_sR, mR_sI, mR_sJ]; exact hF.2.2
      · rw [q2 1292 (by decide) (by decide)]; subst erb; exact I_is _ _ _ _
    obtain ⟨r, κ', ρ', a1, a2, a3⟩ := j_names (κa := κb) (ρa := ρ2) (nw := nw') (x := x) (k := k) hG (by omega) (by omega) (T - (i + 1)) (i + 1) 0 κb ρb ρ2 rfl r2 hP3 hN (by omega) Eqv.rf Eqv.rf
    have st2C : ∀ ρ1 (Q : Int32 → Mem → Prop), Q r (mg κ' ρ1) → X_X0_readNames G Q 7 x (mg (psC κ i) ρ1) := fun ρ1 Q hQ => by
      simp (disch := omega) only [X_X0_readNames, X_X0_readNames_0, X_X0_readNames_20, mI_c, mR_c, mJ_c, sI_c, sJ_c, sR_c, hL.1, hL.2.1, hL.2.2, hC.1, hC.2.1, hC.2.2.1, gx, (hG.s hs).1, h71, lT, lF, tT, tF, eF, pF, zT, m1F, vT, cI, true_and, and_true, true_implies, false_implies, not_false_eq_true, not_true_eq_false, forall_eq, implies_true, I_is, I_cl, I_sl, J_is, J_cl, J_sl, R_is, R_cl, R_sl, mI_sJ, mI_sR, mJ_sI, mJ_sR, mR_sI, mR_sJ, l3]
      rw [← ekb]
      exact a1 ρ1 Q hQ
    have st2M : ∀ κ1 (Q : Int32 → Mem → Prop), Q r (mg κ1 ρ') → X_X12_readNames G Q 1282 (nI k) (mg κ1 ρ) := fun κ1 Q hQ => by
      refine ⟨hM.1, m_is1 (s := 40) hM hTM ap (br1 ?_)⟩
      simp (disch := omega) only [X_X12_readNames_33, mI_m, mR_m, mJ_m, sI_m, sJ_m, hM.1, hM.2, hm.1, hm.2, lT, lF, tT, tF, eF, pF, zT, m1F, vT, cI, true_and, and_true, true_implies, false_implies, not_false_eq_true, not_true_eq_false, forall_eq, implies_true, I_is, I_cl, I_sl, J_is, J_cl, J_sl, R_is, R_cl, R_sl, mI_sJ, mI_sR, mJ_sI, mJ_sR, mR_sI, mR_sJ, l4]
      rw [← erb]
      exact a2 κ1 Q hQ
    rcases a3 with ⟨rfl, a3⟩ | ⟨rfl, i', w', c1, c2, c3, c4, c5, c6⟩
    · exact Jo.fail (fun ρ1 Q hQ => stC ρ1 Q (c_expects1 hL hC hTC (aS ap (by decide) rfl) (br1 (st2C ρ1 _ (br0 ⟨bz0, RSq0 hQ⟩))))) (fun κ1 Q hQ => stM κ1 Q (st2M κ1 _ (br0 ⟨bz0, hQ⟩))) a3
    · obtain ⟨⟨m1, m2, m3⟩, ⟨m4, m5, m6⟩, m7, m8⟩ := c3
      have h4 : MbS κ0 ρ0 sd B z T κa ρa c (mc c) (tb (c + 1)) nw x k κ' ρ' i' (nw' + w') := by
        refine ⟨c2, ⟨u1.tr (c5.mo fun a q hh => by unfold mfC at hh; unfold nfC; omega), u2.tr (c6.mo fun a q hh => by unfold mfM at hh; unfold nfM; omega)⟩, ⟨?_, ?_, ?_⟩, ⟨⟨?_, ?_⟩, ?_⟩, ⟨c4, by omega, m1, ?_⟩, b1, b2, b3, b4, b5⟩
        · rw [c5.R (by unfold nfC; omega)]; exact v1
        · rw [c5.I (by unfold nfC; omega)]; exact v2
        · rw [c5.I (by unfold nfC; omega)]; exact v3
        · rw [c5.I (by unfold nfC; omega)]; exact w1
        · rw [c6.I (by unfold nfM; omega)]; exact w2
        · rw [c5.J (by unfold nfC; omega), c6.J (by unfold nfM; omega)]; exact w3
        · rw [m4]; rw [show 1600 + (nw' + w') = 1600 + nw' + w' by omega]
      have hD4 : DSk sd (nw' + w') κ' ρ' x k 3 0 := by
        refine ⟨w', ⟨by decide, ?_, ?_⟩, ⟨by decide, ?_, ?_, fun _ => by decide, fun e => by omega, fun e => by omega⟩, ⟨m2, m5, fun e => by omega⟩, fun _ => ⟨nw', m3, m6, Nat.le_refl _, m7, m8⟩, fun e => by omega, fun e => by omega⟩
        · rw [c5.I (by unfold nfC; omega)]; subst ekb; simp (disch := omega) only [I_is, I_cl, I_sl, J_is, J_cl, J_sl, R_is, R_cl, R_sl, mI_sJ, mI_sR, mJ_sI, mJ_sR, mR_sI, mR_sJ]; rfl
        · rw [c6.I (by unfold nfM; omega), q2 1290 (by decide) (by decide)]; subst erb; simp (disch := omega) only [I_is, I_cl, I_sl, J_is, J_cl, J_sl, R_is, R_cl, R_sl, mI_sJ, mI_sR, mJ_sI, mJ_sR, mR_sI, mR_sJ]; rfl
        · rw [c5.I (by unfold nfC; omega)]; subst ekb; simp (disch := omega) only [I_is, I_cl, I_sl, J_is, J_cl, J_sl, R_is, R_cl, R_sl, mI_sJ, mI_sR, mJ_sI, mJ_sR, mR_sI, mR_sJ]; exact hF.1.1
        · rw [c6.I (by unfold nfM; omega), q2 1294 (by decide) (by decide)]; subst erb; simp (disch := omega) only [I_is, I_cl, I_sl, J_is, J_cl, J_sl, R_is, R_cl, R_sl, mI_sJ, mI_sR, mJ_sI, mJ_sR, mR_sI, mR_sJ]; exact hF.1.2
      exact Jo.stp (fun ρ1 Q hq => stC ρ1 Q (c_expects1 hL hC hTC (aS ap (by decide) rfl) (br1 (st2C ρ1 _ (br1 hq))))) (fun κ1 Q hq => stM κ1 Q (st2M κ1 _ (br1 hq))) (j_uniq hG hR h4 hD4 (by decide) (by omega : lo ≤ i'))
  · refine Jo.fail (fun ρ1 Q hQ => stC ρ1 Q (c_expects0 hL hC hTC (nS ap (by decide) rfl) (br0 ⟨bz0, RSq0 hQ⟩))) (fun κ1 Q hQ => stM κ1 Q ⟨hM.1, m_is0 (s := 40) hM hTM (by decide) ap (br0 (m_wrong hM hTM ⟨bz0, br0 ⟨bz0, hQ⟩⟩))⟩) (hP.fail _)
theorem j_list (hG : Ly G) (hR : DRf sd (c + 1) nw mc rt hc ow tb κa ρa) (h : MbS κ0 ρ0 sd B z T κa ρa c (mc c) (tb (c + 1)) nw x k κ ρ i nw') (hF : Fld x k κ ρ) (hlo : lo ≤ i) (a : twd B z (pos B z i) = nI 7) : Jo κ0 ρ0 sd (fun Q σ => X_X0_readSort G (RSq G Q) 7 x σ) (fun Q σ => X_X12_toldWord G (RMq G Q (nI (13 + c)) (nI k)) 1282 σ) (MPost κ0 ρ0 sd B z T κa lo c mc rt hc ow tb) κ ρ := by
  have hL := hG.1
  have hM := hG.2.2.2
  have gx := h.gx hG
  obtain ⟨hP, -, -, -, l, b1, b2, b3, b4, b5⟩ := id h
  obtain ⟨⟨hC, hm⟩, ⟨hTC, hTM⟩, -, h71, hs⟩ := id hP
  have hz := hTC.zz
  have hi : i < T := hTC.lt (by rw [((twd_k (by omega)).mp a).1]; decide)
  have ne6 : ¬ twd B z (pos B z i) = nI 6 := by rw [a]; decide
  have h1 : MbS κ0 ρ0 sd B z T κa ρa c (mc c) (tb (c + 1)) nw x k κ (sI ρ 1290 k 5) i nw' := h.wr hC (hm.wI _ _ _) Eqv.rf (Eqv.wI (fun hh => hh (by omega)) _)
  obtain ⟨⟨-, ⟨-, t1⟩, -⟩, -⟩ := id h1
  obtain ⟨ρ2, r2, s2, e2, t2⟩ := m_adv hM (hm.wI 1290 k 5) hTC t1 hi
  have h2 := h1.ps hi s2 e2 t2
  have h3 : MbS κ0 ρ0 sd B z T κa ρa c (mc c) (tb (c + 1)) nw x k (sI (psC κ i) x 2 5) ρ2 (i + 1) nw' := h2.wr ((hC.wI _ _ _).wI _ _ _) s2 (Eqv.wI (fun hh => hh (by omega)) _) Eqv.rf
  obtain ⟨κw, eκ⟩ : ∃ κw, κw = sI (psC κ i) x 2 5 := ⟨_, rfl⟩
  rw [← eκ] at h3
  obtain ⟨hP3, -⟩ := id h3
  obtain ⟨⟨hC3, hm3⟩, ⟨hTC3, hTM3⟩, -⟩ := id hP3
  have stC : ∀ ρ1 (Q : Int32 → Mem → Prop), X_X0_readTarget G (fun w5 s4 => ((w5 = 0 → X_X0_readList_26 G (fun w29 s28 => (bz w29 ∧ RSq G Q w29 s28)) s4) ∧ (¬ w5 = 0 → gT G (mR s4 7 0) = 9 ∧ X_X8_expects G (fun w8 s7 => ((w8 = 0 → X_X0_readList_26 G (fun w29 s28 => (bz w29 ∧ RSq G Q w29 s28)) s7) ∧ (¬ w8 = 0 → gT G (mR s7 7 0) = 9 ∧ X_X8_isName G (fun w11 s10 => ((w11 = 0 → gT G (mR s10 7 0) = 9 ∧ X_X8_misplaced G (fun w25 s24 => (bz w25 ∧ (bz w25 ∧ RSq G Q w25 s24))) (mR s10 7 0) s10) ∧ (¬ w11 = 0 → gT G (mR s10 7 0) = 9 ∧ X_X8_word G (fun w14 s13 => gT G (mR (sJ s13 x 9 w14) 7 0) = 9 ∧ X_X8_placeNow G (fun w18 s17 => gT G (mR (sI s17 x 10 w18) 7 0) = 9 ∧ X_X8_pass G (fun s21 => X_X0_takeFlag G (fun s22 => (bz (1 : Int32) ∧ (bz (1 : Int32) ∧ RSq G Q (1 : Int32) s22))) 7 x (478745093476 : Int64) (4 : Int32) s21) (mR (sI s17 x 10 w18) 7 0) (sI s17 x 10 w18)) (mR (sJ s13 x 9 w14) 7 0) (sJ s13 x 9 w14)) (mR s10 7 0) s10))) (mR s7 7 0) s7))) (mR s4 7 0) (25209 : Int64) s4))) 7 x (mg κw ρ1) → X_X0_readSort G (RSq G Q) 7 x (mg κ ρ1) := fun ρ1 Q hh => by
    simp (disch := omega) only [X_X0_readSort, X_X0_readSort_0, mI_c, mR_c, mJ_c, sI_c, sJ_c, sR_c, hL.1, hL.2.1, hL.2.2, hC.1, hC.2.1, hC.2.2.1, lT, lF, tT, tF, eF, pF, zT, m1F, vT, cI, true_and, and_true, true_implies, false_implies, not_false_eq_true, not_true_eq_false, forall_eq, implies_true]
    refine c_takes0 hL hC hTC (nK ne6 (by decide) rfl) (br0 ?_)
    simp (disch := omega) only [mI_c, mR_c, mJ_c, sI_c, sJ_c, sR_c, hL.1, hL.2.1, hL.2.2, hC.1, hC.2.1, hC.2.2.1, lT, lF, tT, tF, eF, pF, zT, m1F, vT, cI, true_and, and_true, true_implies, false_implies, not_false_eq_true, not_true_eq_false, forall_eq, implies_true]
    refine c_takes1 hL hC hTC (aK a (by decide) rfl) (br1 ?_)
    simp (disch := omega) only [X_X0_readList, X_X0_readList_0, mI_c, mR_c, mJ_c, sI_c, sJ_c, sR_c, hL.1, hL.2.1, hL.2.2, hC.1, hC.2.1, hC.2.2.1, gx, lT, lF, tT, tF, eF, pF, zT, m1F, vT, cI, true_and, and_true, true_implies, false_implies, not_false_eq_true, not_true_eq_false, forall_eq, implies_true]
    rw [← eκ]; simp only [mR_sI, mR_sJ] at hh ⊢; exact hh
  have stM : ∀ κ1 (Q : Int32 → Mem → Prop), X_X12_isName G (fun w7 s6 => ((w7 = 0 → X_X12_wrong G (fun w35 s34 => (bz w35 ∧ Q w35 s34)) 1282 s6) ∧ (¬ w7 = 0 → gT G (mR s6 1282 16) = 103 ∧ vp_in (nI k) (gL G (mR s6 1282 16)) ∧ ∀ s10, s10 = sJ s6 (mR s6 1282 16) (nI k).toNatClampNeg (mJ s6 1282 52) → gT G (mR s10 1282 17) = 100 ∧ vp_in (nI k) (gL G (mR s10 1282 17)) ∧ ∀ s13, s13 = sI s10 (mR s10 1282 17) (nI k).toNatClampNeg (mI s10 1282 49) → X_X12_advance G (fun s14 => X_X12_needsWord G (fun w22 s21 => ((w22 = 0 → (bz (0 : Int32) ∧ Q (0 : Int32) s21)) ∧ (¬ w22 = 0 → X_X12_isName G (fun w24 s23 => ((w24 = 0 → X_X12_wrong G (fun w33 s32 => (bz w33 ∧ Q w33 s32)) 1282 s23) ∧ (¬ w24 = 0 → gT G (mR s23 1282 18) = 103 ∧ vp_in (nI k) (gL G (mR s23 1282 18)) ∧ ∀ s27, s27 = sJ s23 (mR s23 1282 18) (nI k).toNatClampNeg (mJ s23 1282 52) → gT G (mR s27 1282 19) = 100 ∧ vp_in (nI k) (gL G (mR s27 1282 19)) ∧ ∀ s30, s30 = sI s27 (mR s27 1282 19) (nI k).toNatClampNeg (mI s27 1282 49) → X_X12_advance G (fun s31 => X_X12_readMember_279 G Q 1282 (nI (13 + c)) (nI k) s31) 1282 s30))) 1282 s21))) 1282 (8 : Int32) s14) 1282 s13))) 1282 (mg κ1 ρ2) → X_X12_toldWord G (RMq G Q (nI (13 + c)) (nI k)) 1282 (mg κ1 ρ) := fun κ1 Q hh => by
    refine m_toldWord hM hTM (brF ne6 (brT a ⟨hM.1, brF ne6 ?_⟩))
    rw [a]
    simp (disch := omega) only [X_X12_readMember_162, mI_m, mR_m, mJ_m, sI_m, sJ_m, hM.1, hM.2, hm.1, hm.2, vT, true_and, forall_eq, cI]
    refine r2 κ1 _ ?_
    have e7 : (nI 7 = (7 : Int32)) = True := eq_true (by decide)
    simp only [e7, false_implies, not_true_eq_false, true_implies, and_true]
    simp (disch := omega) only [forall_eq, cI] at hh
    exact hh
  by_cases hn : nmT B z (pos B z (i + 1))
  · have hi1 : i + 1 < T := hTC3.lt (by rw [hn.1]; decide)
    have hw := wd_rel hTM3.lo hn.1
    have h4 : MbS κ0 ρ0 sd B z T κa ρa c (mc c) (tb (c + 1)) nw x k (sI (sJ κw x 6 (wdx B z (pos B z (i + 1)))) x 7 (nI (pos B z (i + 1)))) (sI (sJ ρ2 1297 k (wdy B z (pos B z (i + 1)))) 1298 k (nI (pos B z (i + 1)))) (i + 1) nw' := h3.wr ((hC3.wJ _ _ _).wI _ _ _) ((hm3.wJ _ _ _).wI _ _ _) ((Eqv.wJ (fun hh => hh (by omega)) _).sI (fun hh => hh (by omega)) _) ((Eqv.wJ (fun hh => hh (by omega)) _).sI (fun hh => hh (by omega)) _)
    obtain ⟨κv, ev⟩ : ∃ κv, κv = sI (sJ κw x 6 (wdx B z (pos B z (i + 1)))) x 7 (nI (pos B z (i + 1))) := ⟨_, rfl⟩
    obtain ⟨ρv, eu⟩ : ∃ ρv, ρv = sI (sJ ρ2 1297 k (wdy B z (pos B z (i + 1)))) 1298 k (nI (pos B z (i + 1))) := ⟨_, rfl⟩
    rw [← ev, ← eu] at h4
    obtain ⟨hP4, -⟩ := id h4
    obtain ⟨⟨hC4, hm4⟩, ⟨hTC4, hTM4⟩, -⟩ := id hP4
    obtain ⟨ρ3, r3, s3, e3, t3⟩ := m_adv hM hm4 hTC4 hTM4 hi1
    have h5 := h4.ps hi1 s3 e3 t3
    obtain ⟨hP5, -⟩ := id h5
    obtain ⟨⟨hC5, hm5⟩, ⟨hTC5, hTM5⟩, -⟩ := id hP5
    have g2 : ∀ a, 1289 ≤ a → a ≤ 1300 → mI ρ2 a k = mI (sI ρ 1290 k 5) a k := fun a a1 a2 => e2.I (by unfold avM; omega)
    have g3 : ∀ a, 1289 ≤ a → a ≤ 1300 → mI ρ3 a k = mI ρv a k ∧ mJ ρ3 a k = mJ ρv a k := fun a a1 a2 => ⟨e3.I (by unfold avM; omega), e3.J (by unfold avM; omega)⟩
    have st2C : ∀ ρ1 (Q : Int32 → Mem → Prop), X_X8_expects G (fun w8 s7 => ((w8 = 0 → X_X0_readList_26 G (fun w29 s28 => (bz w29 ∧ RSq G Q w29 s28)) s7) ∧ (¬ w8 = 0 → gT G (mR s7 7 0) = 9 ∧ X_X8_isName G (fun w11 s10 => ((w11 = 0 → gT G (mR s10 7 0) = 9 ∧ X_X8_misplaced G (fun w25 s24 => (bz w25 ∧ (bz w25 ∧ RSq G Q w25 s24))) (mR s10 7 0) s10) ∧ (¬ w11 = 0 → gT G (mR s10 7 0) = 9 ∧ X_X8_word G (fun w14 s13 => gT G (mR (sJ s13 x 9 w14) 7 0) = 9 ∧ X_X8_placeNow G (fun w18 s17 => gT G (mR (sI s17 x 10 w18) 7 0) = 9 ∧ X_X8_pass G (fun s21 => X_X0_takeFlag G (fun s22 => (bz (1 : Int32) ∧ (bz (1 : Int32) ∧ RSq G Q (1 : Int32) s22))) 7 x (478745093476 : Int64) (4 : Int32) s21) (mR (sI s17 x 10 w18) 7 0) (sI s17 x 10 w18)) (mR (sJ s13 x 9 w14) 7 0) (sJ s13 x 9 w14)) (mR s10 7 0) s10))) (mR s7 7 0) s7))) 3 (25209 : Int64) (mg (psC κv (i + 1)) ρ1) → X_X0_readSort G (RSq G Q) 7 x (mg κ ρ1) := fun ρ1 Q hh => by
      refine stC ρ1 Q ?_
      have hC := hC3
      simp (disch := omega) only [X_X0_readTarget, X_X0_readTarget_0, mI_c, mR_c, mJ_c, sI_c, sJ_c, sR_c, hL.1, hL.2.1, hL.2.2, hC.1, hC.2.1, hC.2.2.1, lT, lF, tT, tF, eF, pF, zT, m1F, vT, cI, true_and, and_true, true_implies, false_implies, not_false_eq_true, not_true_eq_false, forall_eq, implies_true]
      refine c_isName1 hL hC3 hTC3 hn (br1 ?_)
      simp (disch := omega) only [mI_c, mR_c, mJ_c, sI_c, sJ_c, sR_c, hL.1, hL.2.1, hL.2.2, hC.1, hC.2.1, hC.2.2.1, gx, lT, lF, tT, tF, eF, pF, zT, m1F, vT, cI, true_and, and_true, true_implies, false_implies, not_false_eq_true, not_true_eq_false, forall_eq, implies_true]
      refine c_word hL hC3 hTC3 hn.1 ?_
      have hT6 : TC (sJ κw x 6 (wdx B z (pos B z (i + 1)))) B z T (i + 1) := ⟨hTC3.1.fr rfl (fun a k a1 a2 => ⟨rfl, J_cl (by omega)⟩), hTC3.2.1, hTC3.2.2⟩
      simp (disch := omega) only [mI_c, mR_c, mJ_c, sI_c, sJ_c, sR_c, hL.1, hL.2.1, hL.2.2, hC.1, hC.2.1, hC.2.2.1, gx, lT, lF, tT, tF, eF, pF, zT, m1F, vT, cI, true_and, and_true, true_implies, false_implies, not_false_eq_true, not_true_eq_false, forall_eq, implies_true, I_is, I_cl, I_sl, J_is, J_cl, J_sl, R_is, R_cl, R_sl, mI_sJ, mI_sR, mJ_sI, mJ_sR, mR_sI, mR_sJ]
      refine c_placeNow hL (hC3.wJ _ _ _) hT6 ?_
      simp (disch := omega) only [mI_c, mR_c, mJ_c, sI_c, sJ_c, sR_c, hL.1, hL.2.1, hL.2.2, hC.1, hC.2.1, hC.2.2.1, gx, lT, lF, tT, tF, eF, pF, zT, m1F, vT, cI, true_and, and_true, true_implies, false_implies, not_false_eq_true, not_true_eq_false, forall_eq, implies_true, I_is, I_cl, I_sl, J_is, J_cl, J_sl, R_is, R_cl, R_sl, mI_sJ, mI_sR, mJ_sI, mJ_sR, mR_sI, mR_sJ]
      rw [← ev]
      refine c_pass hL hC4 hTC4 hi1 ⟨bz1, br1 ?_⟩
      have hC := hC5
      rw [mR_c (by decide), show mR (psC κv (i + 1)) 7 0 = 3 from hC5.1.2.2.2.2.2.2.2.2.2.2.2.2.2.1]
      simp only [mR_sI, mR_sJ] at hh
      exact ⟨hL.1.2.2.2.1, hh⟩
    have st2M : ∀ κ1 (Q : Int32 → Mem → Prop), X_X12_needsWord G (fun w22 s21 => ((w22 = 0 → (bz (0 : Int32) ∧ Q (0 : Int32) s21)) ∧ (¬ w22 = 0 → X_X12_isName G (fun w24 s23 => ((w24 = 0 → X_X12_wrong G (fun w33 s32 => (bz w33 ∧ Q w33 s32)) 1282 s23) ∧ (¬ w24 = 0 → gT G (mR s23 1282 18) = 103 ∧ vp_in (nI k) (gL G (mR s23 1282 18)) ∧ ∀ s27, s27 = sJ s23 (mR s23 1282 18) (nI k).toNatClampNeg (mJ s23 1282 52) → gT G (mR s27 1282 19) = 100 ∧ vp_in (nI k) (gL G (mR s27 1282 19)) ∧ ∀ s30, s30 = sI s27 (mR s27 1282 19) (nI k).toNatClampNeg (mI s27 1282 49) → X_X12_advance G (fun s31 => X_X12_readMember_279 G Q 1282 (nI (13 + c)) (nI k) s31) 1282 s30))) 1282 s21))) 1282 (8 : Int32) (mg κ1 ρ3) → X_X12_toldWord G (RMq G Q (nI (13 + c)) (nI k)) 1282 (mg κ1 ρ) := fun κ1 Q hh => by
      refine stM κ1 Q (m_isName1 hM hTM3 hn (br1 ?_))
      have hm := hm3
      simp (disch := omega) only [mI_m, mR_m, mJ_m, sI_m, sJ_m, hM.1, hM.2, hm.1, hm.2, lT, lF, tT, tF, eF, pF, zT, m1F, vT, cI, true_and, and_true, true_implies, false_implies, not_false_eq_true, not_true_eq_false, forall_eq, implies_true, I_is, I_cl, I_sl, J_is, J_cl, J_sl, R_is, R_cl, R_sl, mI_sJ, mI_sR, mJ_sI, mJ_sR, mR_sI, mR_sJ, hTM3.2.2.2.2.1 hn.1, hTM3.2.1]
      show X_X12_advance G _ 1282 (mg κ1 (sI (sJ ρ2 1297 k (wdy B z (pos B z (i + 1)))) 1298 k (nI (pos B z (i + 1)))))
      rw [← eu]
      simp (disch := omega) only [forall_eq, cI] at hh
      exact r3 κ1 _ hh
    by_cases ab : twd B z (pos B z (i + 2)) = nI 8
    · have hi2 : i + 2 < T := hTC5.lt (by rw [((twd_k (by omega)).mp ab).1]; decide)
      obtain ⟨ρ4, r4, s4, e4, t4⟩ := m_adv hM hm5 hTC5 hTM5 hi2
      have h6 := h5.ps hi2 s4 e4 t4
      obtain ⟨hP6, -⟩ := id h6
      obtain ⟨⟨hC6, hm6⟩, ⟨hTC6, hTM6⟩, -⟩ := id hP6
      obtain ⟨κu, eku⟩ : ∃ κu, κu = psC (psC κv (i + 1)) (i + 2) := ⟨_, rfl⟩
      have eku' : psC (psC κv (i + 1)) (i + 1 + 1) = κu := eku.symm
      rw [eku'] at h6 hP6 hC6 hTC6
      by_cases hn2 : nmT B z (pos B z (i + 3))
      · have hi3 : i + 3 < T := hTC6.lt (by rw [hn2.1]; decide)
        have hw2 := wd_rel hTM6.lo hn2.1
        have h7 : MbS κ0 ρ0 sd B z T κa ρa c (mc c) (tb (c + 1)) nw x k (sI (sJ κu x 9 (wdx B z (pos B z (i + 3)))) x 10 (nI (pos B z (i + 3)))) (sI (sJ ρ4 1299 k (wdy B z (pos B z (i + 3)))) 1300 k (nI (pos B z (i + 3)))) (i + 3) nw' := h6.wr ((hC6.wJ _ _ _).wI _ _ _) ((hm6.wJ _ _ _).wI _ _ _) ((Eqv.wJ (fun hh => hh (by omega)) _).sI (fun hh => hh (by omega)) _) ((Eqv.wJ (fun hh => hh (by omega)) _).sI (fun hh => hh (by omega)) _)
        obtain ⟨κt, et⟩ : ∃ κt, κt = sI (sJ κu x 9 (wdx B z (pos B z (i + 3)))) x 10 (nI (pos B z (i + 3))) := ⟨_, rfl⟩
        obtain ⟨ρt, es⟩ : ∃ ρt, ρt = sI (sJ ρ4 1299 k (wdy B z (pos B z (i + 3)))) 1300 k (nI (pos B z (i + 3))) := ⟨_, rfl⟩
        rw [← et, ← es] at h7
        obtain ⟨hP7, -⟩ := id h7
        obtain ⟨⟨hC7, hm7⟩, ⟨hTC7, hTM7⟩, -⟩ := id hP7
        obtain ⟨ρ5, r5, s5, e5, t5⟩ := m_adv hM hm7 hTC7 hTM7 hi3
        have h8 := h7.ps hi3 s5 e5 t5
        have g4 : ∀ a, 1289 ≤ a → a ≤ 1300 → mI ρ4 a k = mI ρ3 a k ∧ mJ ρ4 a k = mJ ρ3 a k := fun a a1 a2 => ⟨e4.I (by unfold avM; omega), e4.J (by unfold avM; omega)⟩
        have g5 : ∀ a, 1289 ≤ a → a ≤ 1300 → mI ρ5 a k = mI ρt a k ∧ mJ ρ5 a k = mJ ρt a k := fun a a1 a2 => ⟨e5.I (by unfold avM; omega), e5.J (by unfold avM; omega)⟩
        have hD8 : DSk sd nw' (psC κt (i + 3)) ρ5 x k 5 0 := by
          refine ⟨0, ⟨by decide, ?_, ?_⟩, ⟨by decide, ?_, ?_, fun _ => by decide, fun e => rfl, fun e => Or.inl rfl⟩, ⟨?_, ?_, fun _ => rfl⟩, fun e => by omega, fun e => ⟨?_, ?_⟩, fun e => ⟨?_, ?_⟩⟩
          · subst et eku ev eκ; simp (disch := omega) only [I_is, I_cl, I_sl, J_is, J_cl, J_sl, R_is, R_cl, R_sl, mI_sJ, mI_sR, mJ_sI, mJ_sR, mR_sI, mR_sJ]; rfl
          · rw [(g5 1290 (by decide) (by decide)).1]; subst es; simp (disch := omega) only [I_is, I_cl, I_sl, J_is, J_cl, J_sl, R_is, R_cl, R_sl, mI_sJ, mI_sR, mJ_sI, mJ_sR, mR_sI, mR_sJ]; rw [(g4 1290 (by decide) (by decide)).1, (g3 1290 (by decide) (by decide)).1]; subst eu; simp (disch := omega) only [I_is, I_cl, I_sl, J_is, J_cl, J_sl, R_is, R_cl, R_sl, mI_sJ, mI_sR, mJ_sI, mJ_sR, mR_sI, mR_sJ]; rw [g2 1290 (by decide) (by decide), I_is]; rfl
          · subst et eku ev eκ; simp (disch := omega) only [I_is, I_cl, I_sl, J_is, J_cl, J_sl, R_is, R_cl, R_sl, mI_sJ, mI_sR, mJ_sI, mJ_sR, mR_sI, mR_sJ]; exact hF.1.1
          · rw [(g5 1294 (by decide) (by decide)).1]; subst es; simp (disch := omega) only [I_is, I_cl, I_sl, J_is, J_cl, J_sl, R_is, R_cl, R_sl, mI_sJ, mI_sR, mJ_sI, mJ_sR, mR_sI, mR_sJ]; rw [(g4 1294 (by decide) (by decide)).1, (g3 1294 (by decide) (by decide)).1]; subst eu; simp (disch := omega) only [I_is, I_cl, I_sl, J_is, J_cl, J_sl, R_is, R_cl, R_sl, mI_sJ, mI_sR, mJ_sI, mJ_sR, mR_sI, mR_sJ]; rw [g2 1294 (by decide) (by decide), I_cl (by decide)]; exact hF.1.2
          · subst et eku ev eκ; simp (disch := omega) only [I_is, I_cl, I_sl, J_is, J_cl, J_sl, R_is, R_cl, R_sl, mI_sJ, mI_sR, mJ_sI, mJ_sR, mR_sI, mR_sJ]; exact hF.2.1
          · rw [(g5 1293 (by decide) (by decide)).1]; subst es; simp (disch := omega) only [I_is, I_cl, I_sl, J_is, J_cl, J_sl, R_is, R_cl, R_sl, mI_sJ, mI_sR, mJ_sI, mJ_sR, mR_sI, mR_sJ]; rw [(g4 1293 (by decide) (by decide)).1, (g3 1293 (by decide) (by decide)).1]; subst eu; simp (disch := omega) only [I_is, I_cl, I_sl, J_is, J_cl, J_sl, R_is, R_cl, R_sl, mI_sJ, mI_sR, mJ_sI, mJ_sR, mR_sI, mR_sJ]; rw [g2 1293 (by decide) (by decide), I_cl (by decide)]; exact hF.2.2
          · rw [(g5 1297 (by decide) (by decide)).2]; subst es; simp (disch := omega) only [I_is, I_cl, I_sl, J_is, J_cl, J_sl, R_is, R_cl, R_sl, mI_sJ, mI_sR, mJ_sI, mJ_sR, mR_sI, mR_sJ]; rw [(g4 1297 (by decide) (by decide)).2, (g3 1297 (by decide) (by decide)).2]; subst et eku ev eu; simp (disch := omega) only [I_is, I_cl, I_sl, J_is, J_cl, J_sl, R_is, R_cl, R_sl, mI_sJ, mI_sR, mJ_sI, mJ_sR, mR_sI, mR_sJ]; exact hw
          · rw [(g5 1298 (by decide) (by decide)).1]; subst es; simp (disch := omega) only [I_is, I_cl, I_sl, J_is, J_cl, J_sl, R_is, R_cl, R_sl, mI_sJ, mI_sR, mJ_sI, mJ_sR, mR_sI, mR_sJ]; rw [(g4 1298 (by decide) (by decide)).1, (g3 1298 (by decide) (by decide)).1]; subst et eku ev eu; simp (disch := omega) only [I_is, I_cl, I_sl, J_is, J_cl, J_sl, R_is, R_cl, R_sl, mI_sJ, mI_sR, mJ_sI, mJ_sR, mR_sI, mR_sJ]
          · rw [(g5 1299 (by decide) (by decide)).2]; subst es et; simp (disch := omega) only [I_is, I_cl, I_sl, J_is, J_cl, J_sl, R_is, R_cl, R_sl, mI_sJ, mI_sR, mJ_sI, mJ_sR, mR_sI, mR_sJ]; exact hw2
          · rw [(g5 1300 (by decide) (by decide)).1]; subst es et; simp (disch := omega) only [I_is, I_cl, I_sl, J_is, J_cl, J_sl, R_is, R_cl, R_sl, mI_sJ, mI_sR, mJ_sI, mJ_sR, mR_sI, mR_sJ]
        refine Jo.stp (fun ρ1 Q hq => st2C ρ1 Q ?_) (fun κ1 Q hq => st2M κ1 Q (m_needsWord1 (k := 8) hM hTM5 ab r4 (br1 (m_isName1 hM hTM6 hn2 (br1 ?_))))) (j_owned hG hR h8 hD8 (Or.inr ⟨rfl, rfl⟩) (by omega : lo ≤ i + 3 + 1))
        · refine c_expects1 hL hC5 hTC5 (aK ab (by decide) rfl) (br1 ?_)
          rw [eku']
          have e70 : ∀ ρ1, mR (mg κu ρ1) 7 0 = 3 := fun ρ1 => (mR_c (by decide) _).trans hC6.1.2.2.2.2.2.2.2.2.2.2.2.2.2.1
          rw [e70]
          refine ⟨hL.1.2.2.2.1, c_isName1 hL hC6 hTC6 hn2 (br1 ?_)⟩
          rw [e70]
          refine ⟨hL.1.2.2.2.1, c_word hL hC6 hTC6 hn2.1 ?_⟩
          have hT6 : TC (sJ κu x 9 (wdx B z (pos B z (i + 3)))) B z T (i + 3) := ⟨hTC6.1.fr rfl (fun a k a1 a2 => ⟨rfl, J_cl (by omega)⟩), hTC6.2.1, hTC6.2.2⟩
          rw [mR_sJ, e70, sJ_c (by omega)]
          refine ⟨hL.1.2.2.2.1, c_placeNow hL (hC6.wJ _ _ _) hT6 ?_⟩
          have e71 : mR (sI (mg (sJ κu x 9 (wdx B z (pos B z (i + 3)))) ρ1) x 10 (nI (pos B z (i + 3)))) 7 0 = 3 := (mR_c (by decide) _).trans hC6.1.2.2.2.2.2.2.2.2.2.2.2.2.2.1
          rw [e71, sI_c (by omega), ← et]
          exact ⟨hL.1.2.2.2.1, c_pass hL hC7 hTC7 hi3 hq⟩
        · have hm := hm6
          simp (disch := omega) only [mI_m, mR_m, mJ_m, sI_m, sJ_m, hM.1, hM.2, hm.1, hm.2, lT, lF, tT, tF, eF, pF, zT, m1F, vT, cI, true_and, and_true, true_implies, false_implies, not_false_eq_true, not_true_eq_false, forall_eq, implies_true, I_is, I_cl, I_sl, J_is, J_cl, J_sl, R_is, R_cl, R_sl, mI_sJ, mI_sR, mJ_sI, mJ_sR, mR_sI, mR_sJ, hTM6.2.2.2.2.1 hn2.1, hTM6.2.1]
          show X_X12_advance G _ 1282 (mg κ1 (sI (sJ ρ4 1299 k (wdy B z (pos B z (i + 3)))) 1300 k (nI (pos B z (i + 3)))))
          rw [← es]
          exact r5 κ1 _ hq
      · refine Jo.fail (fun ρ1 Q hQ => st2C ρ1 Q ?_) (fun κ1 Q hQ => st2M κ1 Q (m_needsWord1 (k := 8) hM hTM5 ab r4 (br1 (m_isName0 hM hTM6 hn2 (br0 (m_wrong hM hTM6 ⟨bz0, hQ⟩)))))) (hP6.fail _)
        refine c_expects1 hL hC5 hTC5 (aK ab (by decide) rfl) (br1 ?_)
        rw [eku']
        have e70 : ∀ ρ1, mR (mg κu ρ1) 7 0 = 3 := fun ρ1 => (mR_c (by decide) _).trans hC6.1.2.2.2.2.2.2.2.2.2.2.2.2.2.1
        rw [e70]
        refine ⟨hL.1.2.2.2.1, c_isName0 hL hC6 hTC6 hn2 (br0 ?_)⟩
        rw [e70]
        exact ⟨hL.1.2.2.2.1, c_misplaced hL hC6 hTC6 ⟨bz0, bz0, RSq0 hQ⟩⟩
    · exact Jo.fail (fun ρ1 Q hQ => st2C ρ1 Q (c_expects0 hL hC5 hTC5 (nK ab (by decide) rfl) (br0 ⟨bz0, bz0, RSq0 hQ⟩))) (fun κ1 Q hQ => st2M κ1 Q (m_needsWord0 (k := 8) hM hTM5 ab (br0 ⟨bz0, hQ⟩))) (hP5.fail _)
  · refine Jo.fail (fun ρ1 Q hQ => stC ρ1 Q ?_) (fun κ1 Q hQ => stM κ1 Q (m_isName0 hM hTM3 hn (br0 (m_wrong hM hTM3 ⟨bz0, hQ⟩)))) (hP3.fail _)
    have hC := hC3
    simp (disch := omega) only [X_X0_readTarget, X_X0_readTarget_0, mI_c, mR_c, mJ_c, sI_c, sJ_c, sR_c, hL.1, hL.2.1, hL.2.2, hC.1, hC.2.1, hC.2.2.1, lT, lF, tT, tF, eF, pF, zT, m1F, vT, cI, true_and, and_true, true_implies, false_implies, not_false_eq_true, not_true_eq_false, forall_eq, implies_true]
    refine c_isName0 hL hC3 hTC3 hn (br0 ?_)
    simp (disch := omega) only [mI_c, mR_c, mJ_c, sI_c, sJ_c, sR_c, hL.1, hL.2.1, hL.2.2, hC.1, hC.2.1, hC.2.2.1, lT, lF, tT, tF, eF, pF, zT, m1F, vT, cI, true_and, and_true, true_implies, false_implies, not_false_eq_true, not_true_eq_false, forall_eq, implies_true]
    exact c_misplaced hL hC3 hTC3 ⟨bz0, br0 ⟨bz0, bz0, RSq0 hQ⟩⟩
end RSORT2
