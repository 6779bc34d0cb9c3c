/-! ask, side by side -/
section ASK
variable {G : Lay}
theorem j_ask (hG : Ly G) (nn : Nat) (κ ρ : Mem) (x : Int32) (hnn : nn ≤ 512) (h : Rel nn κ ρ) : Jt nn (fun Q σ => X_X11_ask G Q 1 x σ) (fun Q σ => X_X12_ask G Q 1282 x σ) κ ρ := by
  have h0 := h
  have hL := hG.1
  have hM := hG.2.2.2
  obtain ⟨sc, n, mc, rt, hc, K, N, r0, us, hA⟩ := h
  obtain ⟨⟨hC, hm, hNu⟩, xT, xF, xS, xN, xK, xR, xU, xW, xD, xY, xZ⟩ := id hA
  have hs2 := xS.1
  rcases unitCase xU x with ⟨u, hu, rfl, ho⟩ | hx
  · obtain ⟨B, z, tpM, tpC, t11⟩ := xT.bt
    obtain ⟨κa, T, ra, hCa, fa, tok, a4, a5, a6⟩ := c_scan hL hC tpC
    obtain ⟨κb, eb⟩ : ∃ κb, κb = sI κa 1 1 0 := ⟨_, rfl⟩
    obtain ⟨ρa, er⟩ : ∃ ρa, ρa = sI (sI ρ 1282 54 0) 1282 55 (-1) := ⟨_, rfl⟩
    have hCb : StC κb := by subst eb; exact hCa.wI _ _ _
    have hma : StM ρa := by subst er; exact (hm.wI _ _ _).wI _ _ _
    have fCb : Eqv (fun a k => ¬ (3 ≤ a ∧ a ≤ 6 ∨ a = 1 ∧ k = 1)) κ κb := by
      subst eb; exact (fa.mo fun a k (q : ¬ (3 ≤ a ∧ a ≤ 6 ∨ a = 1 ∧ k = 1)) => by unfold scC; omega).sI (fun q => q (by omega)) _
    have fMa : Eqv (fun a k => ¬ (a = 1282 ∧ (k = 54 ∨ k = 55))) ρ ρa := by
      subst er; exact (Eqv.wI (fun q => q (by omega)) _).sI (fun q => q (by omega)) _
    have tok' : TokC κb B z T := by subst eb; exact tok.fr (I_cl (by decide)) (fun a k x y => ⟨I_cl (by omega), rfl⟩)
    have bt' : BtM ρa B z := by
      obtain ⟨b1, b2, b3⟩ := tpM
      refine ⟨(fMa.I (by omega)).trans b1, b2, fun k hk => ?_⟩
      rw [fMa.I (by omega)]; exact b3 k hk
    have cS : Eqv (sCc sc) κ κb := fCb.mo fun a k q => by unfold sCc at q; omega
    have mS : Eqv sM ρ ρa := fMa.mo fun a k q => by unfold sM at q; omega
    have f35 : mI κb 3 5 = 0 ∧ mI κb 3 6 = -1 := by subst eb; rw [I_cl (by decide), I_cl (by decide)]; exact ⟨a5, a6⟩
    have f54 : mI ρa 1282 54 = 0 ∧ mI ρa 1282 55 = -1 := by subst er; simp (disch := omega) only [I_is, I_cl, I_sl, J_is, J_cl, J_sl, R_is, R_cl, R_sl, mI_sJ, mI_sR, mJ_sI, mJ_sR, mR_sI, mR_sJ]; exact ⟨trivial, trivial⟩
    obtain ⟨r, κ1, ρ1, rnC, rnM, hh⟩ := j_question hG (xS.fr cS mS) (xN.fr xS cS mS) hCb hma tok' (by subst eb; rw [I_cl (by decide)]; exact a4) bt'
    have goC : ∀ ρx (Q : Int32 → Mem → Prop), ((r = 0 → Q (-1 : Int32) (mg κ1 ρx)) ∧ (¬ r = 0 → gT G (mR (mg κ1 ρx) 1 10) = 11 ∧ X_X10_perform G (fun w13 s12 => ((w13 = 0 → X_X11_tellRows G (fun s14 => Q (mI s14 1 12) s14) 1 s12) ∧ (¬ w13 = 0 → Q ((-10 : Int32) - w13) s12))) (mR (mg κ1 ρx) 1 10) (533 + 184 * u) (mg κ1 ρx))) → X_X11_ask G Q 1 (nI u) (mg κ ρx) := fun ρx Q hq => by
      refine ⟨hL.1.1, c_openUnit1 hL hC xU hu ho (brF (by omega) ?_)⟩
      rw [(mR_c (by decide) _).trans hC.1.2.1, (mR_c (by decide) _).trans hC.1.1, mI_c (by decide), t11]
      refine ⟨hL.1.2.2.2.1, ra ρx _ ?_⟩
      intro s6 hs6
      subst hs6
      rw [sI_c (by decide), ← eb, (mR_c (by decide) _).trans hCb.1.2.2.2.2.2.1, (mR_c (by decide) _).trans hCb.1.2.2.2.1, (mR_c (by decide) _).trans ((cS.R (Or.inl ⟨rfl, rfl⟩)).trans xS.2.1)]
      exact ⟨hL.1.2.2.2.2.2.2.2.2.2.2.2.2.2.2.2.2.2.2.2.1, hL.1.2.2.2.2.2.2.2.2.2.2.2.2.2.2.2.2.1, rnC ρx _ hq⟩
    have goM : ∀ κx (Q : Int32 → Mem → Prop), ((r = 0 → Q (-1 : Int32) (mg κx (sI ρ1 1282 1 0))) ∧ (¬ r = 0 → X_X12_writeUnit G (fun w10 s9 => ((w10 = 0 → ∀ s11, s11 = sI s9 1282 60 (0 : Int32) → X_X12_ask_59 G Q 1282 (0 : Int32) s11) ∧ (¬ w10 = 0 → Q ((-10 : Int32) - w10) s9))) 1282 (nI u) (mg κx (sI ρ1 1282 1 0)))) → X_X12_ask G Q 1282 (nI u) (mg κx ρ) := fun κx Q hq => by
      refine ⟨hM.1, m_isUnit1 hM hm hu ho (br1 ?_)⟩
      intro s4 hs4 s5 hs5
      subst hs4
      subst hs5
      rw [sI_m (by decide), sI_m (by decide), ← er]
      refine rnM κx _ ?_
      intro s8 hs8
      subst hs8
      rw [sI_m (by decide)]
      exact hq
    -- all but tape and fault stands as before
    have keep : ∀ κ1 ρ1, StC κ1 → StM ρ1 → Eqv qfC κb κ1 → Eqv qfM ρa ρ1 → mI κ1 3 5 = mI ρ1 1282 54 → mI κ1 3 6 = mI ρ1 1282 55 → RelA nn sc n mc rt hc K N r0 us κ1 (sI ρ1 1282 1 0) := fun κ1 ρ1 f1 f2 f3 f4 f5 f6 => by
      have e1 : Eqv (fun a k => ¬ (3 ≤ a ∧ a ≤ 12 ∨ a = 1 ∧ k = 1)) κ κ1 := (fCb.mo fun a k (q : ¬ (3 ≤ a ∧ a ≤ 12 ∨ a = 1 ∧ k = 1)) => by omega).tr (f3.mo fun a k (q : ¬ (3 ≤ a ∧ a ≤ 12 ∨ a = 1 ∧ k = 1)) => by unfold qfC; omega)
      have e2 : Eqv (fun a k => ¬ (a = 1282 ∧ (k = 1 ∨ 49 ≤ k ∧ k ≤ 55 ∨ k = 80 ∨ k = 87 ∨ k = 88 ∨ k = 89 ∨ k = 93) ∨ 1339 ≤ a ∧ a ≤ 1344 ∨ a = 1346)) ρ (sI ρ1 1282 1 0) := ((fMa.mo fun a k (q : ¬ (a = 1282 ∧ (k = 1 ∨ 49 ≤ k ∧ k ≤ 55 ∨ k = 80 ∨ k = 87 ∨ k = 88 ∨ k = 89 ∨ k = 93) ∨ 1339 ≤ a ∧ a ≤ 1344 ∨ a = 1346)) => by omega).tr (f4.mo fun a k (q : ¬ (a = 1282 ∧ (k = 1 ∨ 49 ≤ k ∧ k ≤ 55 ∨ k = 80 ∨ k = 87 ∨ k = 88 ∨ k = 89 ∨ k = 93) ∨ 1339 ≤ a ∧ a ≤ 1344 ∨ a = 1346)) => by unfold qfM; omega)).sI (fun q => q (by omega)) _
      refine hA.fr_TF f1 (f2.wI _ _ _) (e1.mo fun a k q => ?_) (e2.mo fun a k q => ?_) (Nat.le_refl nn) ⟨0, by decide, ?_, I_is _ _ _ _, fun k hk => by omega⟩ ⟨?_, ?_⟩
      · unfold afr_TFC sCc kC rC uC wC dC nC at q
        rcases q with q | q | q | ⟨u, hu, q | ⟨j, hj, q⟩⟩ | q | q | ⟨u, j, hu, hj, q⟩ <;> omega
      · unfold afr_TFM sM kM rM uM wM dM at q
        omega
      · rw [f3.I (by unfold qfC; omega)]; subst eb; exact I_is _ _ _ _
      · rw [I_sl (by decide)]; exact f5
      · rw [I_sl (by decide)]; exact f6
    rcases hh with ⟨rfl, ⟨f1, f2⟩, ⟨f3, f4⟩, f5, f6⟩ | ⟨rfl, c0, A, S, P, D, ⟨g1, g2⟩, ⟨g3, g4⟩, ⟨q1, q2, q3⟩, ⟨q4, q5⟩, pr, dA, bd⟩
    · exact ⟨-1, κ1, sI ρ1 1282 1 0, fun ρx Q hQ => goC ρx Q (br0 hQ), fun κx Q hQ => goM κx Q (br0 hQ), Rel.up ⟨sc, n, mc, rt, hc, K, N, r0, us, keep κ1 ρ1 f1 f2 f3 f4 f5 f6⟩⟩
    · have hA1 := keep κ1 ρ1 g1 g2 (g3.mo fun a k q => by unfold qfC at q; unfold qpC; omega) (g4.mo fun a k q => by unfold qfM at q; unfold qpM; omega) (by rw [g3.I (by unfold qpC; omega), g4.I (by unfold qpM; omega), f35.1, f54.1]) (by rw [g3.I (by unfold qpC; omega), g4.I (by unfold qpM; omega), f35.2, f54.2])
      have ho1 : mI (sI ρ1 1282 1 0) 1316 u = 1 := by rw [I_cl (by decide), g4.I (by unfold qpM; omega), fMa.I (by omega)]; exact ho
      obtain ⟨out, κ2, ρ2, N', r0', pC, pM, hA2, hout⟩ := j_perform hG hnn hA1 hu ho1
      have i110 : ∀ ρx, mR (mg κ1 ρx) 1 10 = 1269 := fun ρx => (mR_c (by decide) _).trans g1.1.2.2.2.2.2.2.2.2.1
      have g11 : gT G 1269 = 11 := by simp only [hL.1]
      by_cases h0 : out = 0
      · subst h0
        obtain ⟨-, kC', kM'⟩ := hout rfl
        obtain ⟨⟨hC2, hm2, -⟩, -, -, yS, -, -, yR, -, -, -, yY, -⟩ := id hA2
        have km : ∀ a k, qkM a k → mI ρ2 a k = mI ρ1 a k := fun a k q => by rw [kM'.I q]; unfold qkM at q; exact if_neg (by omega)
        have hE : EV sc n mc rt hc K N' r0' c0 A S P D κ2 ρ2 := by
          refine ⟨⟨hC2, hm2⟩, yS, yR, yY, pr.fr (fun a j hj x y => km _ _ (by unfold qkM; omega)) (fun q hq => km _ _ (by unfold qkM; omega)) (fun j => ⟨km _ _ (by unfold qkM; omega), km _ _ (by unfold qkM; omega)⟩) (fun q hq => kC'.I (by unfold qkC; omega)), ⟨?_, ?_, q3⟩, ⟨?_, ?_⟩, dA, bd⟩
          · rw [kC'.I (by unfold qkC; omega)]; exact q1
          · rw [km _ _ (by unfold qkM; omega)]; exact q2
          · rw [kC'.I (by unfold qkC; omega)]; exact q4
          · rw [km _ _ (by unfold qkM; omega)]; exact q5
        obtain ⟨κ3, t, ⟨x1, x2⟩, ⟨x3, x4⟩, x5, x6⟩ := c_tell hG hE
        obtain ⟨ρ3, t', ⟨z1, z2⟩, ⟨z3, z4⟩, z5, z6⟩ := m_tell hG hE
        obtain ⟨et, ea⟩ := x5.uni z5
        subst et
        obtain ⟨ρ4, v1, v2, v3, v4⟩ := m_tell2 hM (z1.wI 1282 90 (nI t)) x3 (I_is _ _ _ _)
        refine ⟨nI t, κ3, ρ4, fun ρx Q hQ => goC ρx Q (br1 ?_), fun κx Q hQ => goM κx Q (br1 (pM κx _ (br0 ?_))), Rel.up ⟨sc, n, mc, rt, hc, K, N', r0', us, hA2.fr_D x1 v1 (x2.mo fun a k q => ?_) ((z2.mo fun a k q => ?_).tr (Eqv.tr (Eqv.wI (fun q => ?_) _) (v2.mo fun a k q => ?_))) (Nat.le_refl nn) ⟨t, x3, x4, ?_, fun i hi => ?_⟩⟩⟩
        · rw [i110]
          refine ⟨g11, pC ρx _ (br0 (x6 ρx _ ?_))⟩
          rw [mI_c (by decide), x4]
          exact hQ
        · intro s11 hs11
          subst hs11
          rw [sI_m (by decide)]
          exact z6 κx Q (v4 κx Q hQ)
        · unfold afr_DC tC fC sCc kC rC uC wC nC at q
          unfold exC
          rcases q with q | q | q | q | q | ⟨u, hu, q | ⟨j, hj, q⟩⟩ | q | ⟨u, j, hu, hj, q⟩ <;> omega
        · unfold afr_DM tM fM sM kM rM uM wM at q
          unfold exM
          omega
        · unfold afr_DM tM fM sM kM rM uM wM at q
          omega
        · unfold afr_DM tM fM sM kM rM uM wM at q
          omega
        · rw [v2.I (by decide)]; exact I_is _ _ _ _
        · rw [v3 i hi, I_cl (by decide)]; exact ea i hi
      · refine ⟨-10 - out, κ2, ρ2, fun ρx Q hQ => goC ρx Q (br1 ?_), fun κx Q hQ => goM κx Q (br1 (pM κx _ (brF h0 hQ))), Rel.up ⟨sc, n, mc, rt, hc, K, N', r0', us, hA2⟩⟩
        rw [i110]
        exact ⟨g11, pC ρx _ (brF h0 hQ)⟩
  · refine ⟨-1, κ, ρ, fun ρ1 Q hQ => ?_, fun κ1 Q hQ => ?_, h0.up⟩
    · exact ⟨hL.1.1, c_openUnit0 hL hC xU hx (brT rfl hQ)⟩
    · exact ⟨hM.1, m_isUnit0 hM hm hx (br0 hQ)⟩
end ASK
