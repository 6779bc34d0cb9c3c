/-! map, side by side -/
section MAP
variable {G : Lay} {κ κ' ρ ρ' ρx ρy : Mem} {sd sc n nw c m nn : Nat} {mc rt hc ow tb : Nat → Nat}
theorem cpK.fr (h : cpK ρ ρ' c) (e1 : ∀ a k, 1284 ≤ a → a ≤ 1304 → mI ρ a k = mI ρx a k ∧ mJ ρ a k = mJ ρx a k) (e2 : ∀ a k, 1284 ≤ a → a ≤ 1303 → mI ρy a k = mI ρ' a k ∧ mJ ρy a k = mJ ρ' a k) : cpK ρx ρy c := by
  obtain ⟨⟨h1, h2⟩, h3, h4⟩ := h
  refine ⟨⟨?_, fun a a1 a2 => ?_⟩, fun m hm => ?_, fun q a q1 q2 q3 => ?_⟩
  · rw [(e2 1284 c (by decide) (by decide)).2, h1, (e1 1284 _ (by decide) (by decide)).2]
  · rw [(e2 a c (by omega) (by omega)).1, h2 a a1 a2, (e1 a _ (by omega) (by omega)).1]
  · obtain ⟨x1, x2, x3⟩ := h3 m hm
    refine ⟨?_, fun a a1 a2 a3 => ?_, ?_⟩
    · rw [(e2 1289 _ (by decide) (by decide)).2, x1, (e1 1289 _ (by decide) (by decide)).2]
    · rw [(e2 a _ (by omega) (by omega)).1, x2 a a1 a2 a3, (e1 a _ (by omega) (by omega)).1]
    · rw [(e2 1292 _ (by decide) (by decide)).1, x3, (e1 1290 _ (by decide) (by decide)).1, (e1 1292 _ (by decide) (by decide)).1]
  · rw [(e2 a _ (by omega) (by omega)).1, h4 q a q1 q2 q3, (e1 a _ (by omega) (by omega)).1]
theorem j_map (hG : Ly G) (nn : Nat) (κ ρ : Mem) (_hnn : nn ≤ 512) (h : Rel nn κ ρ) : Jt nn (fun Q σ => X_X11_map G Q 1 σ) (fun Q σ => X_X12_map G Q 1282 σ) κ ρ := by
  have hL := hG.1
  have hM := hG.2.2.2
  obtain ⟨sc, n, mc, rt, hc, K, N, r0, us, hA⟩ := h
  obtain ⟨⟨hC, hm, hNu⟩, xT, xF, xS, xN, xK, xR, xU, xW, xD, xY, xZ⟩ := id hA
  have hs2 := xS.1
  have e17 : mR κ 1 7 = 289 - sc := xS.2.2.1
  have e130 : mR κ 13 0 = sc := xS.2.1
  obtain ⟨sd, esd⟩ : ∃ sd, sd = 289 - sc := ⟨_, rfl⟩
  have hs : sd = 14 ∨ sd = 275 := by omega
  rw [← esd] at e17
  obtain ⟨B, z, tM, tC, t11⟩ := xT.bt
  obtain ⟨κa, T, ra, hCa, fa, tok, a4, a5, a6⟩ := c_scan hL hC tC
  have tok' : TokC (sI κa 1 1 0) B z T := tok.fr (I_cl (by decide)) (fun a k x y => ⟨I_cl (by omega), rfl⟩)
  have bt' : BtM (sI (sI ρ 1282 54 0) 1282 55 (-1)) B z := by
    obtain ⟨b1, b2, b3⟩ := tM
    refine ⟨?_, b2, fun k hk => ?_⟩
    · simp (disch := omega) only [I_is, I_cl, I_sl, J_is, J_cl, J_sl, R_is, R_cl, R_sl, mI_sJ, mI_sR, mJ_sI, mJ_sR, mR_sI, mR_sJ]; exact b1
    · simp (disch := omega) only [I_is, I_cl, I_sl, J_is, J_cl, J_sl, R_is, R_cl, R_sl, mI_sJ, mI_sR, mJ_sI, mJ_sR, mR_sI, mR_sJ]; exact b3 k hk
  obtain ⟨r, κ1, ρ1, rnC, rnM, hh⟩ := j_rdClasses (sd := sd) hG (hCa.wI 1 1 0) ((hm.wI 1282 54 0).wI 1282 55 (-1)) hs tok' (by rw [I_cl (by decide)]; exact a4) bt'
  have e17a : mR κa 1 7 = sd := (fa.R (by unfold scC; omega)).trans e17
  have hTs := hG.s hs
  have goC : ∀ ρ2 (Q : Int32 → Mem → Prop), ((r = 0 → Q (-1 : Int32) (mg κ1 ρ2)) ∧ (¬ r = 0 → gT G (mR (mg κ1 ρ2) 1 6) = 6 ∧ ∀ s9, s9 = sR (mg κ1 ρ2) (mR (mg κ1 ρ2) 1 6) 0 (mR (mg κ1 ρ2) 1 7) → ∀ s10, s10 = sR s9 1 7 (mR (mg κ1 ρ2) (mR (mg κ1 ρ2) 1 6) 0) → X_X11_beginAnew G (fun s11 => gT G (mR s11 1 6) = 6 ∧ gT G (mR s11 (mR s11 1 6) 0) = 7 ∧ Q (mI s11 (mR s11 (mR s11 1 6) 0) 0) s11) 1 s10)) → X_X11_map G Q 1 (mg κ ρ2) := fun ρ2 Q hq => by
    unfold X_X11_map X_X11_map_0
    rw [mR_c (by decide), mR_c (by decide), mI_c (by decide), t11, hC.1.1, hC.1.2.1]
    refine ⟨hL.1.1, hL.1.2.2.2.1, ra ρ2 _ ?_⟩
    intro s4 hs4
    subst hs4
    rw [sI_c (by decide), mR_c (by decide), mR_c (by decide)]
    rw [show mR (sI κa 1 1 0) 1 3 = 7 from hCa.1.2.2.1, show mR (sI κa 1 1 0) 1 7 = sd from e17a]
    exact ⟨hL.1.2.2.2.2.2.2.2.2.2.2.1, rnC ρ2 _ hq⟩
  have goM : ∀ κ2 (Q : Int32 → Mem → Prop), ((r = 0 → Q (-1 : Int32) (mg κ2 (sI ρ1 1282 1 0))) ∧ (¬ r = 0 → X_X12_map_36 G Q 1282 0 (mg κ2 (sI (sI ρ1 1282 1 0) 1282 2 (mI ρ1 1282 56))))) → X_X12_map G Q 1282 (mg κ2 ρ) := fun κ2 Q hq => by
    unfold X_X12_map X_X12_map_0
    refine ⟨hM.1, ?_⟩
    intro s2 hs2 s3 hs3
    subst hs2
    subst hs3
    rw [sI_m (by decide), sI_m (by decide)]
    refine rnM κ2 _ ?_
    intro s6 hs6
    subst hs6
    rw [sI_m (by decide)]
    refine ⟨hq.1, fun e => ?_⟩
    intro s7 hs7
    subst hs7
    rw [mI_m (by decide), sI_m (by decide), I_sl (by decide)]
    exact hq.2 e
  rcases hh with ⟨rfl, ⟨f1, f2⟩, ⟨f3, f4⟩, f5, f6⟩ | ⟨rfl, n', nw, mc', rt', hc', ow, tb, hF⟩
  · -- a fault
    refine ⟨-1, κ1, sI ρ1 1282 1 0, fun ρ2 Q hQ => goC ρ2 Q (br0 hQ), fun κ2 Q hQ => goM κ2 Q (br0 hQ), sc, n, mc, rt, hc, K, N, r0, us, ?_⟩
    have e1 : Eqv (fun a k => ¬ (3 ≤ a ∧ a ≤ 7 ∨ sd ≤ a ∧ a < sd + 256 ∨ a = 1 ∧ k = 1)) κ κ1 := ((fa.mo fun a k (q : ¬ (3 ≤ a ∧ a ≤ 7 ∨ sd ≤ a ∧ a < sd + 256 ∨ a = 1 ∧ k = 1)) => by unfold scC; omega).sI (fun q => q (by omega)) _).tr (f3.mo fun a k (q : ¬ (3 ≤ a ∧ a ≤ 7 ∨ sd ≤ a ∧ a < sd + 256 ∨ a = 1 ∧ k = 1)) => by unfold dfC; omega)
    have e2 : Eqv (fun a k => ¬ (a = 1282 ∧ (k = 1 ∨ k = 24 ∨ k = 25 ∨ 49 ≤ k ∧ k ≤ 56) ∨ upM a k)) ρ (sI ρ1 1282 1 0) := (((Eqv.wI (fun q => q (Or.inl (by omega))) _).sI (fun q => q (Or.inl (by omega))) _).tr (f4.mo fun a k q p => q (by rcases p with p | p; exact Or.inl ⟨p.1, by omega⟩; exact Or.inr p))).sI (fun q => q (Or.inl (by omega))) _
    refine hA.fr_TF f1 (f2.wI _ _ _) (e1.mo fun a k q => ?_) (e2.mo fun a k q => ?_) (Nat.le_succ nn) ⟨0, by decide, ?_, I_is _ _ _ _, fun k hk => by omega⟩ ⟨?_, ?_⟩
    · unfold afr_TFC sCc kC rC uC wC dC nC at q
      rcases q with q | q | q | ⟨u, hu, q | ⟨j, hj, q⟩⟩ | q | q | ⟨u, j, hu, hj, q⟩ <;> omega
    · unfold afr_TFM sM kM rM uM wM dM at q
      unfold upM
      omega
    · rw [f3.I (by unfold dfC; omega)]; exact I_is _ _ _ _
    · rw [I_sl (by decide)]; exact f5
    · rw [I_sl (by decide)]; exact f6
  · -- the classes are new
    obtain ⟨⟨⟨g1, g2⟩, ⟨g3, g4⟩, -, hR, -⟩, -⟩ := id hF
    obtain ⟨hB, hN, ⟨q1, q2, q3⟩, q4, q5⟩ := id hR
    have h12 := hB.2.2.1
    have e17b : mR κ1 1 7 = sd := (g3.R (by unfold dpC; omega)).trans e17a
    have e130b : mR κ1 13 0 = sc := (g3.R (by unfold dpC; omega)).trans ((fa.R (by unfold scC; omega)).trans e130)
    have hCs : StC (sR (sR κ1 13 0 sd) 1 7 sc) := (g1.wR (Or.inl ⟨rfl, rfl⟩)).wR (Or.inr (Or.inl ⟨rfl, rfl⟩))
    obtain ⟨κ2, rA, hC2, fr2, z1, z2, z3⟩ := c_beginAnew hL hCs
    have frS : Eqv (fun a k => ¬ (a = 13 ∧ k = 0 ∨ a = 1 ∧ k = 7)) κ1 (sR (sR κ1 13 0 sd) 1 7 sc) := (Eqv.wR (fun q => q (by omega)) _).tr (Eqv.wR (fun q => q (by omega)) _)
    have dr2 : Eqv (fun a _ => sd ≤ a ∧ a < sd + 256) κ1 κ2 := (frS.mo fun a k q => by omega).tr (fr2.mo fun a k q => by omega)
    have k1 : mR κ2 13 0 = sd := by rw [fr2.R (by omega), R_cl (by decide)]; exact R_is _ _ _ _
    have k2 : mR κ2 1 7 = sc := by rw [fr2.R (by omega)]; exact R_is _ _ _ _
    have k0 : mI κ2 sd 0 = nI n' := (dr2.I ⟨by omega, by omega⟩).trans q1
    -- the reference
    obtain ⟨ρs, eρ⟩ : ∃ ρs, ρs = sI (sI ρ1 1282 1 0) 1282 2 (nI n') := ⟨_, rfl⟩
    have hms : StM ρs := by subst eρ; exact (g2.wI _ _ _).wI _ _ _
    have frs : Eqv (fun a k => ¬ (a = 1282 ∧ (k = 1 ∨ k = 2))) ρ1 ρs := by subst eρ; exact (Eqv.wI (fun q => q (by omega)) _).sI (fun q => q (by omega)) _
    obtain ⟨ρ2, hm2, fs2, cp2, run2⟩ := m_map36 hM hms h12 ((frs.I (by omega)).trans q4)
    obtain ⟨ρ3, hm3, fs3, nm3, run3⟩ := m_map267 hM hm2 hB.2.2.2 ((fs2.I (by unfold loM; omega)).trans ((frs.I (by omega)).trans q5))
    obtain ⟨ρ4, hm4, fs4, ⟨y1, y2, y3⟩, run4⟩ := m_map304 hM (hm3.wI 1282 26 0)
    have fs4' : Eqv (fun a k => ¬ (a = 1282 ∧ k = 26 ∨ a = 1310 ∧ k < 12 ∨ (a = 1316 ∨ a = 1317) ∧ k < 4 ∨ a = 1282 ∧ k = 90)) ρ3 ρ4 := (Eqv.wI (fun q => q (by omega)) _).tr (fs4.mo fun a k q => by omega)
    have all : Eqv (fun a k => ¬ (loM a k ∨ a = 1304 ∧ k < 1600 ∨ a = 1282 ∧ (k = 26 ∨ k = 90) ∨ a = 1310 ∧ k < 12 ∨ (a = 1316 ∨ a = 1317) ∧ k < 4)) ρs ρ4 := ((fs2.mo fun a k q p => q (Or.inl p)).tr (fs3.mo fun a k q => by omega)).tr (fs4'.mo fun a k q => by omega)
    have e2 : mI ρ4 1282 2 = nI n' := by
      rw [all.I (by unfold loM; omega)]; subst eρ; exact I_is _ _ _ _
    have e2' : mI (sI ρ3 1282 26 0) 1282 2 = nI n' := by
      rw [I_sl (by decide), fs3.I (by omega), fs2.I (by unfold loM; omega)]; subst eρ; exact I_is _ _ _ _
    have cp : ∀ c, c < n' → cpK ρ1 ρ4 c := fun c hc => (cp2 c hc).fr (fun a k x y => ⟨frs.I (by omega), frs.J (by omega)⟩) (fun a k x y => ⟨(fs4'.I (by omega)).trans (fs3.I (by omega)), (fs4'.J (by omega)).trans (fs3.J (by omega))⟩)
    have nm : ∀ j, j < nw → mJ ρ4 1304 j = mJ ρ1 1304 (1600 + j) := fun j hj => by rw [fs4'.J (by omega), nm3 j hj, fs2.J (by unfold loM; omega), frs.J (by omega)]
    have frC : Eqv (fun a k => ¬ (3 ≤ a ∧ a ≤ 7 ∨ sd ≤ a ∧ a < sd + 256 ∨ a = 1 ∨ a = 13 ∧ k = 0 ∨ a = 270 ∨ a = 531 ∨ (a = 533 ∨ a = 717 ∨ a = 901 ∨ a = 1085) ∧ k = 4)) κ κ2 := by
      refine ((((fa.mo fun a k q => ?_).sI (fun q => q (by omega)) _).tr (g3.mo fun a k q => ?_)).tr (frS.mo fun a k q => ?_)).tr (fr2.mo fun a k q => ?_)
      · unfold scC; omega
      · unfold dpC; omega
      · omega
      · omega
    have frM : Eqv (fun a k => a = 1282 ∧ 64 ≤ k ∧ k ≤ 69 ∨ 1330 ≤ a ∧ a ≤ 1333) ρ ρ4 := by
      refine ((((Eqv.wI (fun q => by omega) _).sI (fun q => by omega) _).tr (g4.mo fun a k q => ?_)).tr (frs.mo fun a k q => ?_)).tr (all.mo fun a k q => ?_)
      · unfold dpM upM; omega
      · omega
      · unfold loM; omega
    have f35 : mI κ2 3 5 = 0 := by
      rw [fr2.I (by omega), frS.I (by omega), g3.I (by unfold dpC; omega), I_cl (by decide)]; exact a5
    have f36 : mI κ2 3 6 = -1 := by
      rw [fr2.I (by omega), frS.I (by omega), g3.I (by unfold dpC; omega), I_cl (by decide)]; exact a6
    have f54 : mI ρ4 1282 54 = 0 := by
      rw [all.I (by unfold loM; omega), frs.I (by omega), g4.I (by unfold dpM upM; omega)]; simp (disch := omega) only [I_is, I_cl, I_sl, J_is, J_cl, J_sl, R_is, R_cl, R_sl, mI_sJ, mI_sR, mJ_sI, mJ_sR, mR_sI, mR_sJ]
    have f55 : mI ρ4 1282 55 = -1 := by
      rw [all.I (by unfold loM; omega), frs.I (by omega), g4.I (by unfold dpM upM; omega)]; simp (disch := omega) only [I_is, I_cl, I_sl, J_is, J_cl, J_sl, R_is, R_cl, R_sl, mI_sJ, mI_sR, mJ_sI, mJ_sR, mR_sI, mR_sJ]
    have f11 : mI κ2 1 1 = 0 := by
      rw [fr2.I (by omega), frS.I (by omega), g3.I (by unfold dpC; omega)]; exact I_is _ _ _ _
    have f1 : mI ρ4 1282 1 = 0 := by
      rw [all.I (by unfold loM; omega)]; subst eρ; simp (disch := omega) only [I_is, I_cl, I_sl, J_is, J_cl, J_sl, R_is, R_cl, R_sl, mI_sJ, mI_sR, mJ_sI, mJ_sR, mR_sI, mR_sJ]
    have f26 : mI ρ4 1282 26 = 0 := by
      rw [fs4.I (by omega)]; exact I_is _ _ _ _
    have op : ∀ u, u < 4 → ¬ mI ρ4 1316 u = 1 := fun u hu e => by rw [y2 u hu] at e; exact absurd e (by decide)
    refine ⟨nI n', κ2, ρ4, fun ρx Q hQ => goC ρx Q (br1 ?_), fun κx Q hQ => goM κx Q (br1 ?_), sd, n', mc', rt', hc', fun _ => 0, fun _ => 0, 0, fun _ => 0, ⟨hC2, hm4, hNu.fr (frC.mo fun a k q => ?_)⟩, ⟨0, by decide, f11, f1, fun k hk => by omega⟩, ⟨f35.trans f54.symm, f36.trans f55.symm⟩, hF.relS dr2 k1 (by omega) cp e2, hF.relN dr2 cp nm, fun f hf => ⟨(z1 f hf).2, y1 f hf, Nat.zero_le _⟩, ⟨fun f hf => ⟨(z1 f hf).1, Nat.zero_le _⟩, f26, rfl, fun f hf i j x y => absurd y (Nat.not_lt_zero _), fun f hf i y => absurd y (Nat.not_lt_zero _), fun r y => absurd y (Nat.not_lt_zero _), fun r r' y => absurd y (Nat.not_lt_zero _), fun f hf => rfl⟩, fun u hu => ⟨(z2 u hu).trans (y2 u hu).symm, Or.inl (y2 u hu)⟩, xW.fr (frC.mo fun a k q => ?_) (frM.mo fun a k q => ?_), ⟨0, by decide, z3, y3, fun i hi => by omega⟩, fun r y => absurd y (Nat.not_lt_zero _), fun u hu e => absurd e (op u hu), fun u hu e => absurd e (op u hu), fun u u' hu hu' e => absurd e (op u hu), ⟨fun _ _ => 0, fun r y => absurd y (Nat.not_lt_zero _), fun u hu e => absurd e (op u hu)⟩⟩
    · rw [mR_c (by decide), mR_c (by decide), show mR κ1 1 6 = 13 from g1.1.2.2.2.2.2.1, e17b, mR_c (by decide), e130b]
      refine ⟨hL.1.2.2.2.2.2.2.2.2.2.2.2.2.2.2.2.2.2.2.2.1, ?_⟩
      intro s9 hs9 s10 hs10
      subst hs9
      subst hs10
      rw [sR_c (by decide), sR_c (by decide)]
      refine rA ρx _ ?_
      rw [mR_c (by decide), show mR κ2 1 6 = 13 from hC2.1.2.2.2.2.2.1, mR_c (by decide), k1, mI_c (by omega), k0]
      exact ⟨hL.1.2.2.2.2.2.2.2.2.2.2.2.2.2.2.2.2.2.2.2.1, hTs.1.1, hQ⟩
    · rw [q4, ← eρ]
      refine run2 κx Q (run3 κx Q (run4 κx Q ?_))
      rw [e2']; exact hQ
    · obtain ⟨u, j, hu, hj, q⟩ := q; omega
    · unfold wC at q; omega
    · unfold wM at q; omega
end MAP
