/-! the sorts of members, side by side -/
section RSORT
variable {G : Lay} {κ0 ρ0 κa ρa κ ρ : Mem} {sd z T i c nw nw' x k kd f lo : Nat} {B : Nat → Nat} {mc rt hc ow tb : Nat → Nat}
/-- a new member: no flag, no name -/
def Fld (x k : Nat) (κ ρ : Mem) : Prop := (mI κ x 3 = nI 0 ∧ mI ρ 1294 k = nI 0) ∧ mI κ x 5 = nI 0 ∧ mI ρ 1293 k = nI 0
theorem j_plain (hG : Ly G) (hR : DRf sd (c + 1) nw mc rt hc ow tb κa ρa) (h : MbS κ0 ρ0 sd B z T κa ρa c (mc c) (tb (c + 1)) nw x k κ ρ i nw') (hF : Fld x k κ ρ) (hlo : lo ≤ i) {q : Nat} (hq : q < 3) (a : twd B z (pos B z i) = nI (12 + q)) : Jo κ0 ρ0 sd (fun Q σ => X_X0_readSort G (RSq G Q) 7 x σ) (fun Q σ => X_X12_toldWord G (RMq G Q (nI (13 + c)) (nI k)) 1282 σ) (MPost κ0 ρ0 sd B z T κa lo c mc rt hc ow tb) κ ρ := by
  have hL := hG.1
  have hM := hG.2.2.2
  have gx := h.gx hG
  obtain ⟨hP, -, -, -, l, b1, b2, b3, b4, b5⟩ := id h
  obtain ⟨⟨hC, hm⟩, ⟨hTC, hTM⟩, -, h71, hs⟩ := id hP
  have hz := hTC.zz
  have hi : i < T := hTC.lt (by rw [((twd_k (by omega)).mp a).1]; decide)
  have h1 : MbS κ0 ρ0 sd B z T κa ρa c (mc c) (tb (c + 1)) nw x k κ (sI ρ 1290 k (nI q)) i nw' := h.wr hC (hm.wI _ _ _) Eqv.rf (Eqv.wI (fun hh => hh (by omega)) _)
  obtain ⟨⟨-, ⟨-, t1⟩, -⟩, -⟩ := id h1
  obtain ⟨ρ2, r2, s2, e2, t2⟩ := m_adv hM (hm.wI 1290 k (nI q)) hTC t1 hi
  have h2 := h1.ps hi s2 e2 t2
  have h3 : MbS κ0 ρ0 sd B z T κa ρa c (mc c) (tb (c + 1)) nw x k (sI (psC κ i) x 2 (nI q)) ρ2 (i + 1) nw' := h2.wr ((hC.wI _ _ _).wI _ _ _) s2 (Eqv.wI (fun hh => hh (by omega)) _) Eqv.rf
  have g : ∀ a, 1289 ≤ a → a ≤ 1300 → mI ρ2 a k = mI (sI ρ 1290 k (nI q)) a k := fun a a1 a2 => e2.I (by unfold avM; omega)
  have hD3 : DSk sd nw' (sI (psC κ i) x 2 (nI q)) ρ2 x k q 0 := by
    refine ⟨0, ⟨by omega, I_is _ _ _ _, ?_⟩, ⟨by decide, ?_, ?_, fun _ => by decide, fun e => by omega, fun e => by omega⟩, ⟨?_, ?_, fun _ => rfl⟩, fun e => by omega, fun e => by omega, fun e => by omega⟩
    · rw [g 1290 (by decide) (by decide), I_is]
    · simp (disch := omega) only [I_is, I_cl, I_sl, J_is, J_cl, J_sl, R_is, R_cl, R_sl, mI_sJ, mI_sR, mJ_sI, mJ_sR, mR_sI, mR_sJ]; exact hF.1.1
    · rw [g 1294 (by decide) (by decide), I_cl (by decide)]; exact hF.1.2
    · simp (disch := omega) only [I_is, I_cl, I_sl, J_is, J_cl, J_sl, R_is, R_cl, R_sl, mI_sJ, mI_sR, mJ_sI, mJ_sR, mR_sI, mR_sJ]; exact hF.2.1
    · rw [g 1293 (by decide) (by decide), I_cl (by decide)]; exact hF.2.2
  have ne : ∀ j, j < 23 → j ≠ 12 + q → ¬ twd B z (pos B z i) = nI j := fun j hj hn e => by
    rw [a] at e; exact hn ((eI (by omega) (by omega)).mp e).symm
  refine Jo.stp (fun ρ1 Q hq2 => ?_) (fun κ1 Q hq2 => ?_) (j_uniq hG hR h3 hD3 (by omega) (by omega : lo ≤ i + 1))
  · simp (disch := omega) only [X_X0_readSort, X_X0_readSort_0, mI_c, mR_c, mJ_c, sI_c, sJ_c, sR_c, hL.1, hL.2.1, hL.2.2, hC.1, hC.2.1, hC.2.2.1, lT, lF, tT, tF, eF, pF, zT, m1F, vT, cI, true_and, and_true, true_implies, false_implies, not_false_eq_true, not_true_eq_false, forall_eq, implies_true]
    refine c_takes0 hL hC hTC (nK (k := 6) (ne 6 (by decide) (by omega)) (by decide) rfl) (br0 ?_)
    simp (disch := omega) only [mI_c, mR_c, mJ_c, sI_c, sJ_c, sR_c, hL.1, hL.2.1, hL.2.2, hC.1, hC.2.1, hC.2.2.1, lT, lF, tT, tF, eF, pF, zT, m1F, vT, cI, true_and, and_true, true_implies, false_implies, not_false_eq_true, not_true_eq_false, forall_eq, implies_true]
    refine c_takes0 hL hC hTC (nK (k := 7) (ne 7 (by decide) (by omega)) (by decide) rfl) (br0 ?_)
    simp (disch := omega) only [mI_c, mR_c, mJ_c, sI_c, sJ_c, sR_c, hL.1, hL.2.1, hL.2.2, hC.1, hC.2.1, hC.2.2.1, lT, lF, tT, tF, eF, pF, zT, m1F, vT, cI, true_and, and_true, true_implies, false_implies, not_false_eq_true, not_true_eq_false, forall_eq, implies_true]
    have : q = 0 ∨ q = 1 ∨ q = 2 := by omega
    rcases this with rfl | rfl | rfl
    · refine c_takes1 hL hC hTC (aK (k := 12) a (by decide) rfl) (br1 ?_)
      simp (disch := omega) only [mI_c, mR_c, mJ_c, sI_c, sJ_c, sR_c, hL.1, hL.2.1, hL.2.2, hC.1, hC.2.1, hC.2.2.1, gx, lT, lF, tT, tF, eF, pF, zT, m1F, vT, cI, true_and, and_true, true_implies, false_implies, not_false_eq_true, not_true_eq_false, forall_eq, implies_true]
      exact hq2
    · refine c_takes0 hL hC hTC (nK (k := 12) (ne 12 (by decide) (by decide)) (by decide) rfl) (br0 ?_)
      simp (disch := omega) only [mI_c, mR_c, mJ_c, sI_c, sJ_c, sR_c, hL.1, hL.2.1, hL.2.2, hC.1, hC.2.1, hC.2.2.1, lT, lF, tT, tF, eF, pF, zT, m1F, vT, cI, true_and, and_true, true_implies, false_implies, not_false_eq_true, not_true_eq_false, forall_eq, implies_true]
      refine c_takes1 hL hC hTC (aK (k := 13) a (by decide) rfl) (br1 ?_)
      simp (disch := omega) only [mI_c, mR_c, mJ_c, sI_c, sJ_c, sR_c, hL.1, hL.2.1, hL.2.2, hC.1, hC.2.1, hC.2.2.1, gx, lT, lF, tT, tF, eF, pF, zT, m1F, vT, cI, true_and, and_true, true_implies, false_implies, not_false_eq_true, not_true_eq_false, forall_eq, implies_true]
      exact hq2
    · refine c_takes0 hL hC hTC (nK (k := 12) (ne 12 (by decide) (by decide)) (by decide) rfl) (br0 ?_)
      simp (disch := omega) only [mI_c, mR_c, mJ_c, sI_c, sJ_c, sR_c, hL.1, hL.2.1, hL.2.2, hC.1, hC.2.1, hC.2.2.1, lT, lF, tT, tF, eF, pF, zT, m1F, vT, cI, true_and, and_true, true_implies, false_implies, not_false_eq_true, not_true_eq_false, forall_eq, implies_true]
      refine c_takes0 hL hC hTC (nK (k := 13) (ne 13 (by decide) (by decide)) (by decide) rfl) (br0 ?_)
      simp (disch := omega) only [mI_c, mR_c, mJ_c, sI_c, sJ_c, sR_c, hL.1, hL.2.1, hL.2.2, hC.1, hC.2.1, hC.2.2.1, lT, lF, tT, tF, eF, pF, zT, m1F, vT, cI, true_and, and_true, true_implies, false_implies, not_false_eq_true, not_true_eq_false, forall_eq, implies_true]
      refine c_takes1 hL hC hTC (aK (k := 14) a (by decide) rfl) (br1 ?_)
      simp (disch := omega) only [mI_c, mR_c, mJ_c, sI_c, sJ_c, sR_c, hL.1, hL.2.1, hL.2.2, hC.1, hC.2.1, hC.2.2.1, gx, lT, lF, tT, tF, eF, pF, zT, m1F, vT, cI, true_and, and_true, true_implies, false_implies, not_false_eq_true, not_true_eq_false, forall_eq, implies_true]
      exact hq2
  · refine m_toldWord hM hTM ?_
    have r : X_X12_readMember_323 G Q 1282 (nI (13 + c)) (nI k) (twd B z (pos B z i)) (mg κ1 ρ) := by
      have n12 : (12 : Int32) = nI 12 := rfl
      rw [a]
      simp (disch := omega) only [X_X12_readMember_323, mI_m, mR_m, mJ_m, sI_m, sJ_m, hM.1, hM.2, hm.1, hm.2, lT, lF, tT, tF, eF, pF, zT, m1F, vT, cI, true_and, and_true, true_implies, false_implies, not_false_eq_true, not_true_eq_false, forall_eq, implies_true, n12, pk_sub]
      rw [show 12 + q - 12 = q by omega]
      exact r2 κ1 _ hq2
    refine brF (ne 6 (by decide) (by omega)) (brF (ne 7 (by decide) (by omega)) ⟨fun _ => r, fun y1 => ⟨fun _ => r, fun y2 => ⟨fun _ => r, fun y3 => ?_⟩⟩⟩)
    exfalso
    have : q = 0 ∨ q = 1 ∨ q = 2 := by omega
    rcases this with rfl | rfl | rfl
    · exact y1 a
    · exact y2 a
    · exact y3 a
theorem j_ref (hG : Ly G) (hR : DRf sd (c + 1) nw mc rt hc ow tb κa ρa) (h : MbS κ0 ρ0 sd B z T κa ρa c (mc c) (tb (c + 1)) nw x k κ ρ i nw') (hF : Fld x k κ ρ) (hlo : lo ≤ i) (a : twd B z (pos B z i) = nI 6) : Jo κ0 ρ0 sd (fun Q σ => X_X0_readSort G (RSq G Q) 7 x σ) (fun Q σ => X_X12_toldWord G (RMq G Q (nI (13 + c)) (nI k)) 1282 σ) (MPost κ0 ρ0 sd B z T κa lo c mc rt hc ow tb) κ ρ := by
  have hL := hG.1
  have hM := hG.2.2.2
  have gx := h.gx hG
  obtain ⟨hP, -, -, -, l, b1, b2, b3, b4, b5⟩ := id h
  obtain ⟨⟨hC, hm⟩, ⟨hTC, hTM⟩, -, h71, hs⟩ := id hP
  have hz := hTC.zz
  have hi : i < T := hTC.lt (by rw [((twd_k (by omega)).mp a).1]; decide)
  have h1 : MbS κ0 ρ0 sd B z T κa ρa c (mc c) (tb (c + 1)) nw x k κ (sI ρ 1290 k 4) i nw' := h.wr hC (hm.wI _ _ _) Eqv.rf (Eqv.wI (fun hh => hh (by omega)) _)
  obtain ⟨⟨-, ⟨-, t1⟩, -⟩, -⟩ := id h1
  obtain ⟨ρ2, r2, s2, e2, t2⟩ := m_adv hM (hm.wI 1290 k 4) hTC t1 hi
  have h2 := h1.ps hi s2 e2 t2
  have h3 : MbS κ0 ρ0 sd B z T κa ρa c (mc c) (tb (c + 1)) nw x k (sI (psC κ i) x 2 4) ρ2 (i + 1) nw' := h2.wr ((hC.wI _ _ _).wI _ _ _) s2 (Eqv.wI (fun hh => hh (by omega)) _) Eqv.rf
  obtain ⟨κw, eκ⟩ : ∃ κw, κw = sI (psC κ i) x 2 4 := ⟨_, rfl⟩
  rw [← eκ] at h3
  obtain ⟨hP3, -⟩ := id h3
  obtain ⟨⟨hC3, hm3⟩, ⟨hTC3, hTM3⟩, -⟩ := id hP3
  have stC : ∀ ρ1 (Q : Int32 → Mem → Prop), X_X0_readTarget G (fun w5 s4 => ((w5 = 0 → (bz (0 : Int32) ∧ (bz (0 : Int32) ∧ RSq G Q (0 : Int32) s4))) ∧ (¬ w5 = 0 → X_X0_takeFlag G (fun s6 => X_X0_takeFlag G (fun s7 => (bz (1 : Int32) ∧ (bz (1 : Int32) ∧ RSq G Q (1 : Int32) s7))) 7 x (478745093476 : Int64) (4 : Int32) s6) 7 x (1836413812 : Int64) (2 : Int32) s4))) 7 x (mg κw ρ1) → X_X0_readSort G (RSq G Q) 7 x (mg κ ρ1) := fun ρ1 Q hh => by
    simp (disch := omega) only [X_X0_readSort, X_X0_readSort_0, mI_c, mR_c, mJ_c, sI_c, sJ_c, sR_c, hL.1, hL.2.1, hL.2.2, hC.1, hC.2.1, hC.2.2.1, lT, lF, tT, tF, eF, pF, zT, m1F, vT, cI, true_and, and_true, true_implies, false_implies, not_false_eq_true, not_true_eq_false, forall_eq, implies_true]
    refine c_takes1 hL hC hTC (aK a (by decide) rfl) (br1 ?_)
    simp (disch := omega) only [X_X0_readReference, X_X0_readReference_0, mI_c, mR_c, mJ_c, sI_c, sJ_c, sR_c, hL.1, hL.2.1, hL.2.2, hC.1, hC.2.1, hC.2.2.1, gx, lT, lF, tT, tF, eF, pF, zT, m1F, vT, cI, true_and, and_true, true_implies, false_implies, not_false_eq_true, not_true_eq_false, forall_eq, implies_true]
    rw [← eκ]; exact hh
  have stM : ∀ κ1 (Q : Int32 → Mem → Prop), X_X12_isName G (fun w7 s6 => ((w7 = 0 → X_X12_wrong G (fun w35 s34 => (bz w35 ∧ Q w35 s34)) 1282 s6) ∧ (¬ w7 = 0 → gT G (mR s6 1282 16) = 103 ∧ vp_in (nI k) (gL G (mR s6 1282 16)) ∧ ∀ s10, s10 = sJ s6 (mR s6 1282 16) (nI k).toNatClampNeg (mJ s6 1282 52) → gT G (mR s10 1282 17) = 100 ∧ vp_in (nI k) (gL G (mR s10 1282 17)) ∧ ∀ s13, s13 = sI s10 (mR s10 1282 17) (nI k).toNatClampNeg (mI s10 1282 49) → X_X12_advance G (fun s14 => X_X12_toldWord G (fun w16 s15 => ((w16 = (9 : Int32) → gT G (mR s15 1282 13) = 100 ∧ vp_in (nI k) (gL G (mR s15 1282 13)) ∧ ∀ s19, s19 = sI s15 (mR s15 1282 13) (nI k).toNatClampNeg (2 : Int32) → X_X12_advance G (fun s20 => X_X12_readMember_279 G Q 1282 (nI (13 + c)) (nI k) s20) 1282 s19) ∧ (¬ w16 = (9 : Int32) → X_X12_readMember_279 G Q 1282 (nI (13 + c)) (nI k) s15))) 1282 s14) 1282 s13))) 1282 (mg κ1 ρ2) → X_X12_toldWord G (RMq G Q (nI (13 + c)) (nI k)) 1282 (mg κ1 ρ) := fun κ1 Q hh => by
    refine m_toldWord hM hTM (brT a ⟨hM.1, brT a ?_⟩)
    rw [a]
    simp (disch := omega) only [X_X12_readMember_162, mI_m, mR_m, mJ_m, sI_m, sJ_m, hM.1, hM.2, hm.1, hm.2, vT, true_and, forall_eq, cI]
    refine r2 κ1 _ ?_
    have e7 : (nI 6 = (7 : Int32)) = False := eq_false (by decide)
    simp only [e7, false_implies, not_false_eq_true, true_implies, true_and]
    simp (disch := omega) only [forall_eq, cI] at hh
    exact hh
  by_cases hn : nmT B z (pos B z (i + 1))
  · have hi1 : i + 1 < T := hTC3.lt (by rw [hn.1]; decide)
    have hw := wd_rel hTM3.lo hn.1
    have h4 : MbS κ0 ρ0 sd B z T κa ρa c (mc c) (tb (c + 1)) nw x k (sI (sJ κw x 6 (wdx B z (pos B z (i + 1)))) x 7 (nI (pos B z (i + 1)))) (sI (sJ ρ2 1297 k (wdy B z (pos B z (i + 1)))) 1298 k (nI (pos B z (i + 1)))) (i + 1) nw' := h3.wr ((hC3.wJ _ _ _).wI _ _ _) ((hm3.wJ _ _ _).wI _ _ _) ((Eqv.wJ (fun hh => hh (by omega)) _).sI (fun hh => hh (by omega)) _) ((Eqv.wJ (fun hh => hh (by omega)) _).sI (fun hh => hh (by omega)) _)
    obtain ⟨κv, ev⟩ : ∃ κv, κv = sI (sJ κw x 6 (wdx B z (pos B z (i + 1)))) x 7 (nI (pos B z (i + 1))) := ⟨_, rfl⟩
    obtain ⟨ρv, eu⟩ : ∃ ρv, ρv = sI (sJ ρ2 1297 k (wdy B z (pos B z (i + 1)))) 1298 k (nI (pos B z (i + 1))) := ⟨_, rfl⟩
    rw [← ev, ← eu] at h4
    obtain ⟨hP4, -⟩ := id h4
    obtain ⟨⟨hC4, hm4⟩, ⟨hTC4, hTM4⟩, -⟩ := id hP4
    obtain ⟨ρ3, r3, s3, e3, t3⟩ := m_adv hM hm4 hTC4 hTM4 hi1
    have h5 := h4.ps hi1 s3 e3 t3
    obtain ⟨hP5, -⟩ := id h5
    obtain ⟨⟨hC5, hm5⟩, ⟨hTC5, hTM5⟩, -⟩ := id hP5
    have g2 : ∀ a, 1289 ≤ a → a ≤ 1300 → mI ρ2 a k = mI (sI ρ 1290 k 4) a k := fun a a1 a2 => e2.I (by unfold avM; omega)
    have g3 : ∀ a, 1289 ≤ a → a ≤ 1300 → mI ρ3 a k = mI ρv a k ∧ mJ ρ3 a k = mJ ρv a k := fun a a1 a2 => ⟨e3.I (by unfold avM; omega), e3.J (by unfold avM; omega)⟩
    have hD5 : DSk sd nw' (psC κv (i + 1)) ρ3 x k 4 0 := by
      refine ⟨0, ⟨by decide, ?_, ?_⟩, ⟨by decide, ?_, ?_, fun _ => by decide, fun e => rfl, fun e => by omega⟩, ⟨?_, ?_, fun _ => rfl⟩, fun e => by omega, fun e => ⟨?_, ?_⟩, fun e => by omega⟩
      · subst ev eκ; simp (disch := omega) only [I_is, I_cl, I_sl, J_is, J_cl, J_sl, R_is, R_cl, R_sl, mI_sJ, mI_sR, mJ_sI, mJ_sR, mR_sI, mR_sJ]; rfl
      · rw [(g3 1290 (by decide) (by decide)).1]; subst eu; simp (disch := omega) only [I_is, I_cl, I_sl, J_is, J_cl, J_sl, R_is, R_cl, R_sl, mI_sJ, mI_sR, mJ_sI, mJ_sR, mR_sI, mR_sJ]; rw [g2 1290 (by decide) (by decide), I_is]; rfl
      · subst ev eκ; simp (disch := omega) only [I_is, I_cl, I_sl, J_is, J_cl, J_sl, R_is, R_cl, R_sl, mI_sJ, mI_sR, mJ_sI, mJ_sR, mR_sI, mR_sJ]; exact hF.1.1
      · rw [(g3 1294 (by decide) (by decide)).1]; subst eu; simp (disch := omega) only [I_is, I_cl, I_sl, J_is, J_cl, J_sl, R_is, R_cl, R_sl, mI_sJ, mI_sR, mJ_sI, mJ_sR, mR_sI, mR_sJ]; rw [g2 1294 (by decide) (by decide), I_cl (by decide)]; exact hF.1.2
      · subst ev eκ; simp (disch := omega) only [I_is, I_cl, I_sl, J_is, J_cl, J_sl, R_is, R_cl, R_sl, mI_sJ, mI_sR, mJ_sI, mJ_sR, mR_sI, mR_sJ]; exact hF.2.1
      · rw [(g3 1293 (by decide) (by decide)).1]; subst eu; simp (disch := omega) only [I_is, I_cl, I_sl, J_is, J_cl, J_sl, R_is, R_cl, R_sl, mI_sJ, mI_sR, mJ_sI, mJ_sR, mR_sI, mR_sJ]; rw [g2 1293 (by decide) (by decide), I_cl (by decide)]; exact hF.2.2
      · rw [(g3 1297 (by decide) (by decide)).2]; subst ev eu; simp (disch := omega) only [I_is, I_cl, I_sl, J_is, J_cl, J_sl, R_is, R_cl, R_sl, mI_sJ, mI_sR, mJ_sI, mJ_sR, mR_sI, mR_sJ]; exact hw
      · rw [(g3 1298 (by decide) (by decide)).1]; subst ev eu; simp (disch := omega) only [I_is, I_cl, I_sl, J_is, J_cl, J_sl, R_is, R_cl, R_sl, mI_sJ, mI_sR, mJ_sI, mJ_sR, mR_sI, mR_sJ]
    have st2C : ∀ ρ1 (Q : Int32 → Mem → Prop), X_X0_takeFlag G (fun s6 => X_X0_takeFlag G (fun s7 => (bz (1 : Int32) ∧ (bz (1 : Int32) ∧ RSq G Q (1 : Int32) s7))) 7 x (478745093476 : Int64) (4 : Int32) s6) 7 x (1836413812 : Int64) (2 : Int32) (mg (psC κv (i + 1)) ρ1) → X_X0_readSort G (RSq G Q) 7 x (mg κ ρ1) := fun ρ1 Q hh => by
      refine stC ρ1 Q ?_
      have hC := hC3
      simp (disch := omega) only [X_X0_readTarget, X_X0_readTarget_0, mI_c, mR_c, mJ_c, sI_c, sJ_c, sR_c, hL.1, hL.2.1, hL.2.2, hC.1, hC.2.1, hC.2.2.1, lT, lF, tT, tF, eF, pF, zT, m1F, vT, cI, true_and, and_true, true_implies, false_implies, not_false_eq_true, not_true_eq_false, forall_eq, implies_true]
      refine c_isName1 hL hC3 hTC3 hn (br1 ?_)
      simp (disch := omega) only [mI_c, mR_c, mJ_c, sI_c, sJ_c, sR_c, hL.1, hL.2.1, hL.2.2, hC.1, hC.2.1, hC.2.2.1, gx, lT, lF, tT, tF, eF, pF, zT, m1F, vT, cI, true_and, and_true, true_implies, false_implies, not_false_eq_true, not_true_eq_false, forall_eq, implies_true]
      refine c_word hL hC3 hTC3 hn.1 ?_
      have hT6 : TC (sJ κw x 6 (wdx B z (pos B z (i + 1)))) B z T (i + 1) := ⟨hTC3.1.fr rfl (fun a k a1 a2 => ⟨rfl, J_cl (by omega)⟩), hTC3.2.1, hTC3.2.2⟩
      simp (disch := omega) only [mI_c, mR_c, mJ_c, sI_c, sJ_c, sR_c, hL.1, hL.2.1, hL.2.2, hC.1, hC.2.1, hC.2.2.1, gx, lT, lF, tT, tF, eF, pF, zT, m1F, vT, cI, true_and, and_true, true_implies, false_implies, not_false_eq_true, not_true_eq_false, forall_eq, implies_true, I_is, I_cl, I_sl, J_is, J_cl, J_sl, R_is, R_cl, R_sl, mI_sJ, mI_sR, mJ_sI, mJ_sR, mR_sI, mR_sJ]
      refine c_placeNow hL (hC3.wJ _ _ _) hT6 ?_
      simp (disch := omega) only [mI_c, mR_c, mJ_c, sI_c, sJ_c, sR_c, hL.1, hL.2.1, hL.2.2, hC.1, hC.2.1, hC.2.2.1, gx, lT, lF, tT, tF, eF, pF, zT, m1F, vT, cI, true_and, and_true, true_implies, false_implies, not_false_eq_true, not_true_eq_false, forall_eq, implies_true, I_is, I_cl, I_sl, J_is, J_cl, J_sl, R_is, R_cl, R_sl, mI_sJ, mI_sR, mJ_sI, mJ_sR, mR_sI, mR_sJ]
      rw [← ev]
      exact c_pass hL hC4 hTC4 hi1 ⟨bz1, br1 hh⟩
    have st2M : ∀ κ1 (Q : Int32 → Mem → Prop), X_X12_toldWord G (fun w16 s15 => ((w16 = (9 : Int32) → gT G (mR s15 1282 13) = 100 ∧ vp_in (nI k) (gL G (mR s15 1282 13)) ∧ ∀ s19, s19 = sI s15 (mR s15 1282 13) (nI k).toNatClampNeg (2 : Int32) → X_X12_advance G (fun s20 => X_X12_readMember_279 G Q 1282 (nI (13 + c)) (nI k) s20) 1282 s19) ∧ (¬ w16 = (9 : Int32) → X_X12_readMember_279 G Q 1282 (nI (13 + c)) (nI k) s15))) 1282 (mg κ1 ρ3) → X_X12_toldWord G (RMq G Q (nI (13 + c)) (nI k)) 1282 (mg κ1 ρ) := fun κ1 Q hh => by
      refine stM κ1 Q (m_isName1 hM hTM3 hn (br1 ?_))
      have hm := hm3
      simp (disch := omega) only [mI_m, mR_m, mJ_m, sI_m, sJ_m, hM.1, hM.2, hm.1, hm.2, lT, lF, tT, tF, eF, pF, zT, m1F, vT, cI, true_and, and_true, true_implies, false_implies, not_false_eq_true, not_true_eq_false, forall_eq, implies_true, I_is, I_cl, I_sl, J_is, J_cl, J_sl, R_is, R_cl, R_sl, mI_sJ, mI_sR, mJ_sI, mJ_sR, mR_sI, mR_sJ, hTM3.2.2.2.2.1 hn.1, hTM3.2.1]
      show X_X12_advance G _ 1282 (mg κ1 (sI (sJ ρ2 1297 k (wdy B z (pos B z (i + 1)))) 1298 k (nI (pos B z (i + 1)))))
      rw [← eu]
      simp (disch := omega) only [forall_eq, cI] at hh
      exact r3 κ1 _ hh
    by_cases am : twd B z (pos B z (i + 2)) = nI 9
    · have hi2 : i + 2 < T := hTC5.lt (by rw [((twd_k (by omega)).mp am).1]; decide)
      have h6 : MbS κ0 ρ0 sd B z T κa ρa c (mc c) (tb (c + 1)) nw x k (psC κv (i + 1)) (sI ρ3 1294 k 2) (i + 2) nw' := h5.wr hC5 (hm5.wI _ _ _) Eqv.rf (Eqv.wI (fun hh => hh (by omega)) _)
      obtain ⟨⟨-, ⟨-, t6⟩, -⟩, -⟩ := id h6
      obtain ⟨ρ4, r4, s4, e4, t4⟩ := m_adv hM (hm5.wI 1294 k 2) hTC5 t6 hi2
      have h7 := h6.ps hi2 s4 e4 t4
      have h8 : MbS κ0 ρ0 sd B z T κa ρa c (mc c) (tb (c + 1)) nw x k (sI (psC (psC κv (i + 1)) (i + 2)) x 3 2) ρ4 (i + 3) nw' := h7.wr ((hC5.wI _ _ _).wI _ _ _) s4 (Eqv.wI (fun hh => hh (by omega)) _) Eqv.rf
      have hD8 : DSk sd nw' (sI (psC (psC κv (i + 1)) (i + 2)) x 3 2) ρ4 x k 4 2 := by
        have := (hD5.flag hs (by omega) (g := 2) ⟨by decide, fun q => by omega, fun q => rfl, fun q => by omega⟩)
        have := this.ps (i := i + 2) hs (by omega) e4
        refine this.fr (fun j => ⟨?_, rfl⟩) (fun a a1 a2 => ⟨rfl, rfl⟩) (fun j hj => ⟨rfl, rfl⟩)
        by_cases e : j = 3
        · subst e; rw [I_is, I_cl (by omega), I_is]; rfl
        · simp (disch := omega) only [I_is, I_cl, I_sl, J_is, J_cl, J_sl, R_is, R_cl, R_sl, mI_sJ, mI_sR, mJ_sI, mJ_sR, mR_sI, mR_sJ]
      have ef : mI (psC κv (i + 1)) x 3 = nI 0 := by obtain ⟨w, -, hf, -⟩ := hD5; exact hf.2.1
      refine Jo.stp (fun ρ1 Q hq => st2C ρ1 Q ?_) (fun κ1 Q hq => st2M κ1 Q (m_toldWord hM hTM5 (brT am ?_))) (j_owned hG hR h8 hD8 (Or.inl ⟨rfl, Or.inr rfl⟩) (by omega : lo ≤ i + 3))
      · have hC := hC5
        have eor : nI 0 ||| (2 : Int32) = 2 := by decide
        simp (disch := omega) only [X_X0_takeFlag, X_X0_takeFlag_0, X_X0_takeFlag_22, hL.1, hC5.1, mR_c, mI_c, sI_c, true_and]
        refine c_takes1 hL hC5 hTC5 (aK am (by decide) rfl) (br1 ?_)
        have hq : X_X0_takeFlag G (fun s7 => (bz (1 : Int32) ∧ (bz (1 : Int32) ∧ RSq G Q 1 s7))) 7 x (478745093476 : Int64) (4 : Int32) (mg (sI (psC (psC κv (i + 1)) (i + 2)) x 3 2) ρ1) := hq
        have e3 : mI (psC (psC κv (i + 1)) (i + 2)) x 3 = nI 0 := by rw [I_cl (by omega)]; exact ef
        refine ⟨gx, fun s6 e => ?_⟩
        rw [mI_c (by omega), e3, eor, sI_c (by omega)] at e
        rw [e]
        simp (disch := omega) only [X_X0_takeFlag, X_X0_takeFlag_0, X_X0_takeFlag_22, hL.1, mR_c, true_and] at hq
        exact hq
      · have hm := hm5
        simp (disch := omega) only [mI_m, mR_m, mJ_m, sI_m, sJ_m, hM.1, hM.2, hm.1, hm.2, lT, lF, tT, tF, eF, pF, zT, m1F, vT, cI, true_and, and_true, true_implies, false_implies, not_false_eq_true, not_true_eq_false, forall_eq, implies_true]
        exact r4 κ1 _ hq
    · refine Jo.stp (fun ρ1 Q hq => st2C ρ1 Q ?_) (fun κ1 Q hq => st2M κ1 Q (m_toldWord hM hTM5 (brF am hq))) (j_owned hG hR h5 hD5 (Or.inl ⟨rfl, Or.inl rfl⟩) (by omega : lo ≤ i + 2))
      refine ⟨hL.1.2.2.2.2.2.2.2.2.2.2.1, ?_, ?_⟩
      · rw [mR_c (by decide), show mR (psC κv (i + 1)) 7 0 = 3 from hC5.1.2.2.2.2.2.2.2.2.2.2.2.2.2.1]; exact hL.1.2.2.2.1
      · rw [mR_c (by decide), show mR (psC κv (i + 1)) 7 0 = 3 from hC5.1.2.2.2.2.2.2.2.2.2.2.2.2.2.1]
        exact c_takes0 hL hC5 hTC5 (nK am (by decide) rfl) (br0 hq)
  · refine Jo.fail (fun ρ1 Q hQ => stC ρ1 Q ?_) (fun κ1 Q hQ => stM κ1 Q (m_isName0 hM hTM3 hn (br0 (m_wrong hM hTM3 ⟨bz0, hQ⟩)))) (hP3.fail _)
    have hC := hC3
    simp (disch := omega) only [X_X0_readTarget, X_X0_readTarget_0, mI_c, mR_c, mJ_c, sI_c, sJ_c, sR_c, hL.1, hL.2.1, hL.2.2, hC.1, hC.2.1, hC.2.2.1, lT, lF, tT, tF, eF, pF, zT, m1F, vT, cI, true_and, and_true, true_implies, false_implies, not_false_eq_true, not_true_eq_false, forall_eq, implies_true]
    refine c_isName0 hL hC3 hTC3 hn (br0 ?_)
    simp (disch := omega) only [mI_c, mR_c, mJ_c, sI_c, sJ_c, sR_c, hL.1, hL.2.1, hL.2.2, hC.1, hC.2.1, hC.2.2.1, lT, lF, tT, tF, eF, pF, zT, m1F, vT, cI, true_and, and_true, true_implies, false_implies, not_false_eq_true, not_true_eq_false, forall_eq, implies_true]
    exact c_misplaced hL hC3 hTC3 ⟨bz0, br0 ⟨bz0, bz0, RSq0 hQ⟩⟩
end RSORT
