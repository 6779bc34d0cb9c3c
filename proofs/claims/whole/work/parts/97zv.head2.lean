/-! readHead, side by side -/
def CPost (κ0 ρ0 : Mem) (sd : Nat) (B : Nat → Nat) (z T lo n nw : Nat) (κ ρ : Mem) : Prop := ∃ i mc rt hc ow tb, lo < i ∧ PS κ0 ρ0 sd B z T κ ρ i ∧ DRf sd (n + 1) nw mc rt hc ow tb κ ρ ∧ mR κ 7 2 = sd + 4 + 5 * n
def HdC (G : Lay) (Q : Int32 → Mem → Prop) (s3 : Mem) : Prop := gT G (mR s3 7 0) = 9 ∧ X_X8_isName G (fun w7 s6 => ((w7 = 0 → gT G (mR s6 7 0) = 9 ∧ X_X8_misplaced G (fun w27 s26 => (bz w27 ∧ Q w27 s26)) (mR s6 7 0) s6) ∧ (¬ w7 = 0 → gT G (mR s6 7 0) = 9 ∧ X_X8_word G (fun w10 s9 => gT G (mR s9 7 1) = 7 ∧ X_X6_classNamed G (fun w13 s12 => ((w13 = (-1 : Int32) → gT G (mR s12 7 1) = 7 ∧ (((mI s12 (mR s12 7 1) 0) < (12 : Int32) → gT G (mR s12 7 0) = 9 ∧ X_X8_pass G (fun s16 => X_X0_readOrigin G (fun w18 s17 => (bz w18 ∧ Q w18 s17)) 7 w10 s16) (mR s12 7 0) s12) ∧ (¬ (mI s12 (mR s12 7 1) 0) < (12 : Int32) → gT G (mR s12 7 0) = 9 ∧ X_X8_refuse G (fun w21 s20 => (bz w21 ∧ Q w21 s20)) (mR s12 7 0) (4 : Int32) s12))) ∧ (¬ w13 = (-1 : Int32) → gT G (mR s12 7 0) = 9 ∧ X_X8_refuse G (fun w24 s23 => (bz w24 ∧ Q w24 s23)) (mR s12 7 0) (3 : Int32) s12))) (mR s9 7 1) w10 s9) (mR s6 7 0) s6))) (mR s3 7 0) s3
def dqM (n : Nat) (mc hc : Nat → Nat) (nw a k : Nat) : Prop := dsM n mc hc nw a k ∨ a = 1282 ∧ (k = 25 ∨ k = 56) ∨ (a = 1287 ∨ a = 1288) ∧ 13 ≤ k ∧ k < 13 + n
section OPEN
variable {G : Lay} {κ0 ρ0 κ κ' ρ ρ' ρ2 : Mem} {sd z T i c n nw p t lo : Nat} {B : Nat → Nat} {mc rt hc ow tb : Nat → Nat} {w : Int64} {pa wy : Int32}
theorem PHd.fr (h : PHd n mc w ρ pa wy) (e : Eqv avM ρ ρ2) : PHd n mc w ρ2 pa wy := by
  obtain ⟨h1, h2, h3, h4⟩ := h
  have g : ∀ a k, a ≠ 1282 → mI ρ2 a k = mI ρ a k := fun a k ha => e.I (by unfold avM; omega)
  have gJ : ∀ a k, a ≠ 1282 → mJ ρ2 a k = mJ ρ a k := fun a k ha => e.J (by unfold avM; omega)
  refine ⟨?_, ?_, ?_, ?_⟩
  · rw [gJ _ _ (by decide)]; exact h1
  · rw [g _ _ (by decide)]; exact h2
  · rw [g _ _ (by decide)]; exact h3
  · rcases h4 with ⟨a1, a2, a3, a4⟩ | ⟨p, p1, p2, p3, p4, p5⟩
    · exact Or.inl ⟨a1, by rw [g _ _ (by decide)]; exact a2, a3, by rw [g _ _ (by decide)]; exact a4⟩
    · refine Or.inr ⟨p, p1, p2, ?_, ?_, fun m hm => ?_⟩
      · rw [g _ _ (by decide), g _ _ (by decide)]; exact p3
      · rw [g _ _ (by decide)]; exact p4
      · have := p5 m hm
        rw [gJ 1289 _ (by decide), gJ 1289 _ (by decide), g 1290 _ (by decide), g 1290 _ (by decide), g 1292 _ (by decide), g 1292 _ (by decide), g 1293 _ (by decide), g 1293 _ (by decide), g 1294 _ (by decide), g 1294 _ (by decide), g 1296 _ (by decide), g 1296 _ (by decide)]
        exact this
theorem DRf.frM (h : DRf sd n nw mc rt hc ow tb κ ρ) (e : Eqv (dqM n mc hc nw) ρ ρ') : DRf sd n nw mc rt hc ow tb κ ρ' := by
  obtain ⟨hB, hN, q, q4, q5⟩ := h
  refine ⟨hB.fr Eqv.rf (e.mo fun a k hh => Or.inl hh), fun c hcn => ?_, q, ?_, ?_⟩
  · obtain ⟨⟨k1, k2⟩, k3, k4⟩ := hN c hcn
    exact ⟨⟨k1, (e.I (Or.inr (Or.inr (by omega)))).trans k2⟩, k3, (e.I (Or.inr (Or.inr (by omega)))).trans k4⟩
  · exact (e.I (Or.inr (Or.inl (by omega)))).trans q4
  · exact (e.I (Or.inr (Or.inl (by omega)))).trans q5
theorem j_open (hG : Ly G) (hP : PS κ0 ρ0 sd B z T κ ρ i) (hR : DRf sd n nw mc rt hc ow tb κ ρ) (hn : n < 12) (hH : PHd n mc w ρ pa wy) (hlo : lo ≤ i) : Jh G κ0 ρ0 sd n (fun Q σ => X_X0_readOrigin_115 G (fun w18 s17 => (bz w18 ∧ Q w18 s17)) 7 w pa wy σ) (fun Q σ => X_X12_readClass_271 G Q 1282 (nI (13 + n)) σ) (CPost κ0 ρ0 sd B z T lo n nw) κ ρ := by
  have hL := hG.1
  have hM := hG.2.2.2
  obtain ⟨⟨hC, hm⟩, ⟨hTC, hTM⟩, -, h71, hs⟩ := id hP
  have hz := hTC.zz
  have hT := hG.s hs
  by_cases a : sgA B z (pos B z i) 123
  · have hi : i < T := hTC.lt (by rw [a.1]; decide)
    obtain ⟨ρ2, r2, s2, e2, t2⟩ := m_adv hM hm hTC hTM hi
    have hP2 := hP.ps hi s2 e2 t2
    have hR2 : DRf sd n nw mc rt hc ow tb (psC κ i) ρ2 := hR.av hs e2
    have hH2 := hH.fr e2
    obtain ⟨⟨hC2, hm2⟩, ⟨hTC2, hTM2⟩, -, h712, -⟩ := id hP2
    obtain ⟨hB, hN, ⟨q1, q2, q3⟩, q4, q5⟩ := id hR2
    obtain ⟨κ', run, hA⟩ : ∃ κ', (∀ ρ1 (Q : Nat → Mem → Prop), Q (sd + 4 + 5 * n) (mg κ' ρ1) → X_X6_addClass G Q sd w pa wy (mg (psC κ i) ρ1)) ∧ acC sd n w pa wy (psC κ i) κ' := by
      rcases hH2.2.2.2 with ⟨rfl, -⟩ | ⟨p, p1, rfl, -⟩
      · exact c_addClass0 hG hC2 hs hn q1
      · have hr : ∀ j, j < mc p → sd + 64 ≤ mR (psC κ i) (sd + 5 + 5 * p) j ∧ mR (psC κ i) (sd + 5 + 5 * p) j < sd + 256 := fun j hj => by
          have := (hB.mem p1 hj).1; have := hB.2.1.le n (Nat.le_refl _); omega
        exact c_addClass1 hG hC2 hs hn q1 p1 (hB.2.1.2 p p1).2.1 (hN p p1).1.1 hr
    have hA' : acC sd n w pa wy (psC κ i) (sR κ' 7 2 (sd + 4 + 5 * n)) := by
      obtain ⟨a1, a2, a3, a4, a5⟩ := hA
      refine ⟨a1.wR (Or.inr (Or.inr (Or.inl ⟨rfl, by decide⟩))), a2.tr (Eqv.wR (fun h => h (by omega)) _), a3, a4, fun p t h1 h2 h3 h4 => ?_⟩
      obtain ⟨b1, b2, b3, b4⟩ := a5 p t h1 h2 h3 h4
      refine ⟨b1, b2, b3, fun m hm => ?_⟩
      rw [R_cl (by omega)]
      exact b4 m hm
    obtain ⟨mc', rt', hc', ow', tb', hR3⟩ := hR2.addC hs hn hH2 hA'
    refine Jh.good (κ' := sR κ' 7 2 (sd + 4 + 5 * n)) (ρ' := sI ρ2 1282 56 (nI (n + 1))) (fun ρ1 Q hQ => ?_) (fun κ1 Q hQ => ?_) ⟨i + 1, mc', rt', hc', ow', tb', by omega, hP2.fr hA'.1 (hm2.wI _ _ _) (hA'.2.1.mo fun a k hh => by unfold drC at hh; unfold cfC; omega) (Eqv.wI (fun h => h (Or.inl (by omega))) _), hR3, R_is _ _ _ _⟩
    · simp (disch := omega) only [X_X0_readOrigin_115, mI_c, mR_c, mJ_c, sI_c, sJ_c, sR_c, hL.1, hL.2.1, hL.2.2, hC.1, hC.2.1, hC.2.2.1, lT, lF, tT, tF, eF, pF, zT, m1F, vT, cI, true_and, and_true, true_implies, false_implies, not_false_eq_true, not_true_eq_false, forall_eq, implies_true]
      refine c_expects1 hL hC hTC (aS a (by decide) rfl) (br1 ?_)
      rw [mR_c (by decide), h712]
      refine ⟨hT.1.1, run ρ1 _ ?_⟩
      simp (disch := omega) only [mI_c, mR_c, mJ_c, sI_c, sJ_c, sR_c, hL.1, hL.2.1, hL.2.2, hC.1, hC.2.1, hC.2.2.1, lT, lF, tT, tF, eF, pF, zT, m1F, vT, cI, true_and, and_true, true_implies, false_implies, not_false_eq_true, not_true_eq_false, forall_eq, implies_true, I_is, I_cl, I_sl, J_is, J_cl, J_sl, R_is, R_cl, R_sl, mI_sJ, mI_sR, mJ_sI, mJ_sR, mR_sI, mR_sJ, bzT1]
      exact hQ
    · refine ⟨hM.1, m_needs1 (s := 123) hM hTM a r2 (br1 ?_)⟩
      have hm := s2
      simp (disch := omega) only [mI_m, mR_m, mJ_m, sI_m, sJ_m, hM.1, hM.2, hm.1, hm.2, lT, lF, tT, tF, eF, pF, zT, m1F, vT, cI, true_and, and_true, true_implies, false_implies, not_false_eq_true, not_true_eq_false, forall_eq, implies_true, I_is, I_cl, I_sl, J_is, J_cl, J_sl, R_is, R_cl, R_sl, mI_sJ, mI_sR, mJ_sI, mJ_sR, mR_sI, mR_sJ, q4, nI_1]
      exact hQ
  · refine Jh.fail (fun ρ1 Q hQ => ?_) (fun κ1 Q hQ => ⟨hM.1, m_needs0 (s := 123) hM hTM (by decide) a (br0 ⟨bz0, hQ⟩)⟩) (hP.fail (flt B z (pos B z i)) (p := pos B z i))
    simp (disch := omega) only [X_X0_readOrigin_115, mI_c, mR_c, mJ_c, sI_c, sJ_c, sR_c, hL.1, hL.2.1, hL.2.2, hC.1, hC.2.1, hC.2.2.1, lT, lF, tT, tF, eF, pF, zT, m1F, vT, cI, true_and, and_true, true_implies, false_implies, not_false_eq_true, not_true_eq_false, forall_eq, implies_true]
    exact c_expects0 hL hC hTC (nS a (by decide) rfl) (br0 ⟨bz0, bz0, hQ⟩)
end OPEN
