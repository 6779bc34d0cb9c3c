/-! readMember, side by side -/
def Jo (κ0 ρ0 : Mem) (sd : Nat) (XC XM : (Int32 → Mem → Prop) → Mem → Prop) (P : Mem → Mem → Prop) (κ ρ : Mem) : Prop := ∃ r κ' ρ', RunC XC κ r κ' ∧ RunM XM ρ r ρ' ∧ ((r = 0 ∧ Fl κ0 ρ0 sd κ' ρ') ∨ (r = 1 ∧ P κ' ρ'))
def RSq (G : Lay) (Q : Int32 → Mem → Prop) (w : Int32) (s : Mem) : Prop := ((w = 0 → X_X0_readMember_130 G Q s) ∧ (¬ w = 0 → gT G (mR s 7 0) = 9 ∧ X_X8_expects G (fun w27 s26 => ((w27 = 0 → X_X0_readMember_130 G Q s26) ∧ (¬ w27 = 0 → X_X0_readMember_131 G Q (1 : Int32) s26))) (mR s 7 0) (59 : Int64) s))
def RMq (G : Lay) (Q : Int32 → Mem → Prop) (l1 kk w33 : Int32) (s32 : Mem) : Prop := ((w33 = (6 : Int32) → X_X12_readMember_146 G Q 1282 l1 kk w33 s32) ∧ (¬ w33 = (6 : Int32) → ((w33 = (7 : Int32) → X_X12_readMember_146 G Q 1282 l1 kk w33 s32) ∧ (¬ w33 = (7 : Int32) → ((w33 = (12 : Int32) → X_X12_readMember_323 G Q 1282 l1 kk w33 s32) ∧ (¬ w33 = (12 : Int32) → ((w33 = (13 : Int32) → X_X12_readMember_323 G Q 1282 l1 kk w33 s32) ∧ (¬ w33 = (13 : Int32) → ((w33 = (14 : Int32) → X_X12_readMember_323 G Q 1282 l1 kk w33 s32) ∧ (¬ w33 = (14 : Int32) → X_X12_readNames G (fun w35 s34 => ((w35 = 0 → (bz (0 : Int32) ∧ Q (0 : Int32) s34)) ∧ (¬ w35 = 0 → X_X12_readMember_350 G Q 1282 l1 kk s34))) 1282 kk s32))))))))))
section JO
variable {κ0 ρ0 κ κ2 ρ ρ2 : Mem} {sd : Nat} {XC XC2 XM XM2 : (Int32 → Mem → Prop) → Mem → Prop} {P : Mem → Mem → Prop}
theorem Jo.stp (h1 : ∀ ρ1 (Q : Int32 → Mem → Prop), XC2 Q (mg κ2 ρ1) → XC Q (mg κ ρ1)) (h2 : ∀ κ1 (Q : Int32 → Mem → Prop), XM2 Q (mg κ1 ρ2) → XM Q (mg κ1 ρ)) (h : Jo κ0 ρ0 sd XC2 XM2 P κ2 ρ2) : Jo κ0 ρ0 sd XC XM P κ ρ := by
  obtain ⟨r, κ', ρ', a, b, d⟩ := h
  exact ⟨r, κ', ρ', fun ρ1 Q hQ => h1 ρ1 Q (a ρ1 Q hQ), fun κ1 Q hQ => h2 κ1 Q (b κ1 Q hQ), d⟩
theorem Jo.fail {κ' ρ' : Mem} (h1 : ∀ ρ1 (Q : Int32 → Mem → Prop), Q 0 (mg κ' ρ1) → XC Q (mg κ ρ1)) (h2 : ∀ κ1 (Q : Int32 → Mem → Prop), Q 0 (mg κ1 ρ') → XM Q (mg κ1 ρ)) (h : Fl κ0 ρ0 sd κ' ρ') : Jo κ0 ρ0 sd XC XM P κ ρ := ⟨0, κ', ρ', h1, h2, Or.inl ⟨rfl, h⟩⟩
theorem Jo.good {κ' ρ' : Mem} (h1 : ∀ ρ1 (Q : Int32 → Mem → Prop), Q 1 (mg κ' ρ1) → XC Q (mg κ ρ1)) (h2 : ∀ κ1 (Q : Int32 → Mem → Prop), Q 1 (mg κ1 ρ') → XM Q (mg κ1 ρ)) (h : P κ' ρ') : Jo κ0 ρ0 sd XC XM P κ ρ := ⟨1, κ', ρ', h1, h2, Or.inr ⟨rfl, h⟩⟩
end JO
def MPost (κ0 ρ0 : Mem) (sd : Nat) (B : Nat → Nat) (z T : Nat) (κa : Mem) (lo c : Nat) (mc rt hc ow tb : Nat → Nat) (κ ρ : Mem) : Prop := ∃ i nw, lo < i ∧ PS κ0 ρ0 sd B z T κ ρ i ∧ 2 * nw ≤ i ∧ DRf sd (c + 1) nw (updN mc c (mc c + 1)) rt hc ow (updN tb (c + 1) (tb (c + 1) + 1)) κ ρ ∧ mR κ 7 2 = mR κa 7 2
section RMEM
variable {G : Lay} {κ0 ρ0 κa ρa κ ρ : Mem} {sd z T i c nw nw' x k kd f lo : Nat} {B : Nat → Nat} {mc rt hc ow tb : Nat → Nat}
theorem RSq0 {Q : Int32 → Mem → Prop} {s : Mem} (h : Q 0 s) : RSq G Q 0 s := br0 ⟨bz0, h⟩
theorem MbS.gx (hG : Ly G) (h : MbS κ0 ρ0 sd B z T κa ρa c (mc c) (tb (c + 1)) nw x k κ ρ i nw') : gT G x = 3 := by
  obtain ⟨hP, -, -, -, -, b1, b2, b3, b4, b5⟩ := h
  rw [b3]; exact (hG.s hP.2.2.2.2).2.2 _ b4
theorem j_semi (hG : Ly G) (hR : DRf sd (c + 1) nw mc rt hc ow tb κa ρa) (h : MbS κ0 ρ0 sd B z T κa ρa c (mc c) (tb (c + 1)) nw x k κ ρ i nw') (hD : DSrt sd nw' κ ρ x k) (hlo : lo ≤ i) : Jo κ0 ρ0 sd (fun Q σ => RSq G Q 1 σ) (fun Q σ => X_X12_readMember_370 G Q 1282 (nI (13 + c)) σ) (MPost κ0 ρ0 sd B z T κa lo c mc rt hc ow tb) κ ρ := by
  have hL := hG.1
  have hM := hG.2.2.2
  obtain ⟨hP, -, -, -, l, b1, b2, b3, b4, b5⟩ := id h
  obtain ⟨⟨hC, hm⟩, ⟨hTC, hTM⟩, -, h71, hs⟩ := id hP
  have hz := hTC.zz
  by_cases a : sgA B z (pos B z i) 59
  · have hi : i < T := hTC.lt (by rw [a.1]; decide)
    obtain ⟨ρ2, r2, s2, e2, t2⟩ := m_adv hM hm hTC hTM hi
    have h2 := h.ps hi s2 e2 t2
    obtain ⟨hP2, ⟨y1, y2⟩, -⟩ := id h2
    have hD2 : DSrt sd nw' (psC κ i) ρ2 x k := by
      obtain ⟨kd, f, w, hD⟩ := hD
      exact (DSk.ps ⟨w, hD⟩ hs (by omega) e2).srt
    have hR2 := hR.addM h2 (by omega) hD2
    have e87 : mI ρ2 1287 (13 + c) = nI (mc c) := by rw [y2.I (by unfold mfM; omega)]; exact (hR.2.1 c (by omega)).1.2
    have hmc := (hR.1.2.1.2 c (by omega)).2.1
    refine Jo.good (κ' := psC κ i) (ρ' := sI ρ2 1287 (13 + c) (nI (mc c + 1))) (fun ρ1 Q hQ => ?_) (fun κ1 Q hQ => ?_) ⟨i + 1, nw', by omega, hP2.fr hP2.1.1 (s2.wI _ _ _) Eqv.rf (Eqv.wI (fun hh => hh (Or.inr (by unfold upM; omega))) _), by omega, hR2, y1.R (by unfold mfC; omega)⟩
    · refine br1 ?_
      simp (disch := omega) only [mI_c, mR_c, mJ_c, sI_c, sJ_c, sR_c, hL.1, hL.2.1, hL.2.2, hC.1, hC.2.1, hC.2.2.1, lT, lF, tT, tF, eF, pF, zT, m1F, vT, cI, true_and, and_true, true_implies, false_implies, not_false_eq_true, not_true_eq_false, forall_eq, implies_true]
      exact c_expects1 hL hC hTC (aS a (by decide) rfl) (br1 ⟨bz1, hQ⟩)
    · refine ⟨hM.1, m_needs1 (s := 59) hM hTM a r2 (br1 ?_)⟩
      have hm := s2
      simp (disch := omega) only [mI_m, mR_m, mJ_m, sI_m, sJ_m, hM.1, hM.2, hm.1, hm.2, lT, lF, tT, tF, eF, pF, zT, m1F, vT, cI, true_and, and_true, true_implies, false_implies, not_false_eq_true, not_true_eq_false, forall_eq, implies_true, I_is, I_cl, I_sl, J_is, J_cl, J_sl, R_is, R_cl, R_sl, mI_sJ, mI_sR, mJ_sI, mJ_sR, mR_sI, mR_sJ, e87, nI_1, bzT1]
      exact hQ
  · refine Jo.fail (fun ρ1 Q hQ => br1 ?_) (fun κ1 Q hQ => ⟨hM.1, m_needs0 (s := 59) hM hTM (by decide) a (br0 ⟨bz0, hQ⟩)⟩) (hP.fail _)
    simp (disch := omega) only [mI_c, mR_c, mJ_c, sI_c, sJ_c, sR_c, hL.1, hL.2.1, hL.2.2, hC.1, hC.2.1, hC.2.2.1, lT, lF, tT, tF, eF, pF, zT, m1F, vT, cI, true_and, and_true, true_implies, false_implies, not_false_eq_true, not_true_eq_false, forall_eq, implies_true]
    exact c_expects0 hL hC hTC (nS a (by decide) rfl) (br0 ⟨bz0, hQ⟩)
theorem j_uniq (hG : Ly G) (hR : DRf sd (c + 1) nw mc rt hc ow tb κa ρa) (h : MbS κ0 ρ0 sd B z T κa ρa c (mc c) (tb (c + 1)) nw x k κ ρ i nw') (hD : DSk sd nw' κ ρ x k kd 0) (hk : kd < 4) (hlo : lo ≤ i) : Jo κ0 ρ0 sd (fun Q σ => X_X0_readSort_124 G (RSq G Q) 7 x σ) (fun Q σ => X_X12_readMember_350 G Q 1282 (nI (13 + c)) (nI k) σ) (MPost κ0 ρ0 sd B z T κa lo c mc rt hc ow tb) κ ρ := by
  have hL := hG.1
  have hM := hG.2.2.2
  have gx := h.gx hG
  obtain ⟨hP, -, -, -, l, b1, b2, b3, b4, b5⟩ := id h
  obtain ⟨⟨hC, hm⟩, ⟨hTC, hTM⟩, -, h71, hs⟩ := id hP
  have hz := hTC.zz
  by_cases a : twd B z (pos B z i) = nI 11
  · have hi : i < T := hTC.lt (by rw [((twd_k (by decide)).mp a).1]; decide)
    have hf := hD
    obtain ⟨w, -, hf, -⟩ := hf
    have h1 : MbS κ0 ρ0 sd B z T κa ρa c (mc c) (tb (c + 1)) nw x k κ (sI ρ 1294 k 1) i nw' := h.wr hC (hm.wI _ _ _) Eqv.rf (Eqv.wI (fun hh => hh (by omega)) _)
    obtain ⟨⟨-, ⟨-, t1⟩, -⟩, -⟩ := id h1
    obtain ⟨ρ2, r2, s2, e2, t2⟩ := m_adv hM (hm.wI 1294 k 1) hTC t1 hi
    have h2 := h1.ps hi s2 e2 t2
    have h3 : MbS κ0 ρ0 sd B z T κa ρa c (mc c) (tb (c + 1)) nw x k (sI (psC κ i) x 3 1) ρ2 (i + 1) nw' := h2.wr ((hC.wI _ _ _).wI _ _ _) s2 (Eqv.wI (fun hh => hh (by omega)) _) Eqv.rf
    have hD3 : DSk sd nw' (sI (psC κ i) x 3 1) ρ2 x k kd 1 := by
      have := (hD.flag hs (by omega) (g := 1) ⟨by decide, fun _ => by decide, fun q => by omega, fun q => by omega⟩)
      have := this.ps (i := i) hs (by omega) e2
      refine this.fr (fun j => ⟨?_, rfl⟩) (fun a a1 a2 => ⟨rfl, rfl⟩) (fun j hj => ⟨rfl, rfl⟩)
      by_cases e : j = 3
      · subst e; rw [I_is, I_cl (by omega), I_is]; rfl
      · rw [I_sl e, I_cl (by omega), I_cl (by omega), I_sl e]
    refine Jo.stp (fun ρ1 Q hq => ?_) (fun κ1 Q hq => ?_) (j_semi hG hR h3 hD3.srt (by omega : lo ≤ i + 1))
    · simp (disch := omega) only [X_X0_readSort_124, X_X0_takeFlag, X_X0_takeFlag_0, X_X0_takeFlag_22, mI_c, mR_c, mJ_c, sI_c, sJ_c, sR_c, hL.1, hL.2.1, hL.2.2, hC.1, hC.2.1, hC.2.2.1, lT, lF, tT, tF, eF, pF, zT, m1F, vT, cI, true_and, and_true, true_implies, false_implies, not_false_eq_true, not_true_eq_false, forall_eq, implies_true]
      refine c_takes1 hL hC hTC (aK a (by decide) rfl) (br1 ?_)
      simp (disch := omega) only [mI_c, mR_c, mJ_c, sI_c, sJ_c, sR_c, hL.1, hL.2.1, hL.2.2, hC.1, hC.2.1, hC.2.2.1, gx, lT, lF, tT, tF, eF, pF, zT, m1F, vT, cI, true_and, and_true, true_implies, false_implies, not_false_eq_true, not_true_eq_false, forall_eq, implies_true, I_is, I_cl, I_sl, J_is, J_cl, J_sl, R_is, R_cl, R_sl, mI_sJ, mI_sR, mJ_sI, mJ_sR, mR_sI, mR_sJ, hf.2.1, bzT1]
      exact hq
    · refine ⟨hM.1, m_toldWord hM hTM (brT a ?_)⟩
      simp (disch := omega) only [mI_m, mR_m, mJ_m, sI_m, sJ_m, hM.1, hM.2, hm.1, hm.2, lT, lF, tT, tF, eF, pF, zT, m1F, vT, cI, true_and, and_true, true_implies, false_implies, not_false_eq_true, not_true_eq_false, forall_eq, implies_true]
      exact r2 κ1 _ hq
  · refine Jo.stp (fun ρ1 Q hq => ?_) (fun κ1 Q hq => ⟨hM.1, m_toldWord hM hTM (brF a hq)⟩) (j_semi hG hR h hD.srt hlo)
    simp (disch := omega) only [X_X0_readSort_124, X_X0_takeFlag, X_X0_takeFlag_0, X_X0_takeFlag_22, mI_c, mR_c, mJ_c, sI_c, sJ_c, sR_c, hL.1, hL.2.1, hL.2.2, hC.1, hC.2.1, hC.2.2.1, lT, lF, tT, tF, eF, pF, zT, m1F, vT, cI, true_and, and_true, true_implies, false_implies, not_false_eq_true, not_true_eq_false, forall_eq, implies_true]
    exact c_takes0 hL hC hTC (nK a (by decide) rfl) (br0 ⟨bz1, hq⟩)
theorem j_owned (hG : Ly G) (hR : DRf sd (c + 1) nw mc rt hc ow tb κa ρa) (h : MbS κ0 ρ0 sd B z T κa ρa c (mc c) (tb (c + 1)) nw x k κ ρ i nw') (hD : DSk sd nw' κ ρ x k kd f) (hk : kd = 4 ∧ (f = 0 ∨ f = 2) ∨ kd = 5 ∧ f = 0) (hlo : lo ≤ i) : Jo κ0 ρ0 sd (fun Q σ => X_X0_takeFlag G (fun s7 => (bz (1 : Int32) ∧ (bz (1 : Int32) ∧ RSq G Q 1 s7))) 7 x (478745093476 : Int64) (4 : Int32) σ) (fun Q σ => X_X12_readMember_279 G Q 1282 (nI (13 + c)) (nI k) σ) (MPost κ0 ρ0 sd B z T κa lo c mc rt hc ow tb) κ ρ := by
  have hL := hG.1
  have hM := hG.2.2.2
  have gx := h.gx hG
  obtain ⟨hP, -, -, -, l, b1, b2, b3, b4, b5⟩ := id h
  obtain ⟨⟨hC, hm⟩, ⟨hTC, hTM⟩, -, h71, hs⟩ := id hP
  have hz := hTC.zz
  by_cases a : twd B z (pos B z i) = nI 10
  · have hi : i < T := hTC.lt (by rw [((twd_k (by decide)).mp a).1]; decide)
    have hf := hD
    obtain ⟨w, -, hf, -⟩ := hf
    have hor : nI f ||| (4 : Int32) = nI (f + 4) := by
      have : f = 0 ∨ f = 2 := by omega
      rcases this with rfl | rfl <;> decide
    have hadd : nI f + (4 : Int32) = nI (f + 4) := by
      have : f = 0 ∨ f = 2 := by omega
      rcases this with rfl | rfl <;> decide
    have h1 : MbS κ0 ρ0 sd B z T κa ρa c (mc c) (tb (c + 1)) nw x k κ (sI ρ 1294 k (nI (f + 4))) i nw' := h.wr hC (hm.wI _ _ _) Eqv.rf (Eqv.wI (fun hh => hh (by omega)) _)
    obtain ⟨⟨-, ⟨-, t1⟩, -⟩, -⟩ := id h1
    obtain ⟨ρ2, r2, s2, e2, t2⟩ := m_adv hM (hm.wI 1294 k (nI (f + 4))) hTC t1 hi
    have h2 := h1.ps hi s2 e2 t2
    have h3 : MbS κ0 ρ0 sd B z T κa ρa c (mc c) (tb (c + 1)) nw x k (sI (psC κ i) x 3 (nI (f + 4))) ρ2 (i + 1) nw' := h2.wr ((hC.wI _ _ _).wI _ _ _) s2 (Eqv.wI (fun hh => hh (by omega)) _) Eqv.rf
    have hD3 : DSk sd nw' (sI (psC κ i) x 3 (nI (f + 4))) ρ2 x k kd (f + 4) := by
      have := (hD.flag hs (by omega) (g := f + 4) ⟨by omega, fun q => by omega, fun q => by omega, fun q => by omega⟩)
      have := this.ps (i := i) hs (by omega) e2
      refine this.fr (fun j => ⟨?_, rfl⟩) (fun a a1 a2 => ⟨rfl, rfl⟩) (fun j hj => ⟨rfl, rfl⟩)
      by_cases e : j = 3
      · subst e; rw [I_is, I_cl (by omega), I_is]
      · rw [I_sl e, I_cl (by omega), I_cl (by omega), I_sl e]
    refine Jo.stp (fun ρ1 Q hq => ?_) (fun κ1 Q hq => ?_) (j_semi hG hR h3 hD3.srt (by omega : lo ≤ i + 1))
    · simp (disch := omega) only [X_X0_takeFlag, X_X0_takeFlag_0, X_X0_takeFlag_22, mI_c, mR_c, mJ_c, sI_c, sJ_c, sR_c, hL.1, hL.2.1, hL.2.2, hC.1, hC.2.1, hC.2.2.1, lT, lF, tT, tF, eF, pF, zT, m1F, vT, cI, true_and, and_true, true_implies, false_implies, not_false_eq_true, not_true_eq_false, forall_eq, implies_true]
      refine c_takes1 hL hC hTC (aK a (by decide) rfl) (br1 ?_)
      simp (disch := omega) only [mI_c, mR_c, mJ_c, sI_c, sJ_c, sR_c, hL.1, hL.2.1, hL.2.2, hC.1, hC.2.1, hC.2.2.1, gx, lT, lF, tT, tF, eF, pF, zT, m1F, vT, cI, true_and, and_true, true_implies, false_implies, not_false_eq_true, not_true_eq_false, forall_eq, implies_true, I_is, I_cl, I_sl, J_is, J_cl, J_sl, R_is, R_cl, R_sl, mI_sJ, mI_sR, mJ_sI, mJ_sR, mR_sI, mR_sJ, hf.2.1, hor, bzT1]
      exact hq
    · refine ⟨hM.1, m_toldWord hM hTM (brT a ?_)⟩
      simp (disch := omega) only [mI_m, mR_m, mJ_m, sI_m, sJ_m, hM.1, hM.2, hm.1, hm.2, lT, lF, tT, tF, eF, pF, zT, m1F, vT, cI, true_and, and_true, true_implies, false_implies, not_false_eq_true, not_true_eq_false, forall_eq, implies_true, hf.2.2.1, hadd]
      exact r2 κ1 _ hq
  · refine Jo.stp (fun ρ1 Q hq => ?_) (fun κ1 Q hq => ⟨hM.1, m_toldWord hM hTM (brF a hq)⟩) (j_semi hG hR h hD.srt hlo)
    simp (disch := omega) only [X_X0_takeFlag, X_X0_takeFlag_0, X_X0_takeFlag_22, mI_c, mR_c, mJ_c, sI_c, sJ_c, sR_c, hL.1, hL.2.1, hL.2.2, hC.1, hC.2.1, hC.2.2.1, lT, lF, tT, tF, eF, pF, zT, m1F, vT, cI, true_and, and_true, true_implies, false_implies, not_false_eq_true, not_true_eq_false, forall_eq, implies_true]
    exact c_takes0 hL hC hTC (nK a (by decide) rfl) (br0 ⟨bz1, bz1, hq⟩)
end RMEM
