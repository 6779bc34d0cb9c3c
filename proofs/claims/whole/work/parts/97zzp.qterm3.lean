/-! a comparison -/
section QT3
variable {G : Lay} {κ0 ρ0 κ κ' ρ ρ' ρ2 κ1 ρ1 κ2 : Mem} {sc n z T i io c0 A S c m nn s : Nat} {st : List Nat} {B : Nat → Nat} {mc rt hc P D : Nat → Nat}
theorem j_termC (hG : Ly G) (hS : RelS sc n mc rt hc κ0 ρ0) (hN : RelN sc n mc κ0 ρ0) (h : QT κ0 ρ0 sc n mc B z T c0 0 κ ρ i st 0 A S P D) (a : ¬ twd B z (pos B z i) = nI 22) : Jq κ0 ρ0 (fun Q σ => X_X4_readTerm G Q 11 σ) (fun Q σ => X_X12_readPath G Q 1282 0 σ) (fun κ' ρ' => ∃ i' S' P' D', i < i' ∧ QT κ0 ρ0 sc n mc B z T c0 1 κ' ρ' i' st 0 (A + 1) S' P' D') κ ρ := by
  have hL := hG.1
  have hM := hG.2.2.2
  obtain ⟨hP, ⟨m1, m2, m3, m4, m5⟩, ⟨c1, c2, c3, c4⟩, -, -, -, -, ⟨y1, y2, y3⟩, c0n⟩ := id h
  obtain ⟨⟨hC, hm⟩, ⟨hTC, hTM⟩, -, -⟩ := id hP
  have hz := hTC.zz
  have c2 : mI κ 8 1 = nI (P A) := c2
  have i110 : ∀ {κ ρ1 : Mem}, StC κ → mR (mg κ ρ1) 11 0 = 3 := fun {κ ρ1} hC => (mR_c (by decide) _).trans hC.1.2.2.2.2.2.2.2.2.2.2.2.2.2.2.2.2.1
  have i111 : ∀ {κ ρ1 : Mem}, StC κ → mR (mg κ ρ1) 11 1 = 8 := fun {κ ρ1} hC => (mR_c (by decide) _).trans hC.1.2.2.2.2.2.2.2.2.2.2.2.2.2.2.2.2.2.1
  have g9 : gT G 3 = 9 := hL.1.2.2.2.1
  have g4 : gT G 8 = 4 := hL.1.2.2.2.2.2.2.2.2.2.2.2.1
  have g5 : gT G 11 = 5 := hL.1.2.2.2.2.2.2.2.2.2.2.2.2.2.2.2.2.1
  obtain ⟨κb, eb⟩ : ∃ κb, κb = sI (sI (sI (sI κ 9 (P A) 4) 8 1 (nI (P A + 1))) 9 (P A + 1) 0) 8 1 (nI (P A + 1 + 1)) := ⟨_, rfl⟩
  have hCb : StC κb := by subst eb; exact (((hC.wI _ _ _).wI _ _ _).wI _ _ _).wI _ _ _
  have hPb : QP κ0 ρ0 sc B z T κb ρ i := hP.fr hCb hm (by subst eb; exact (((Eqv.wI (fun h => h (by omega)) _).sI (fun h => h (by omega)) _).sI (fun h => h (by omega)) _).sI (fun h => h (by omega)) _) Eqv.rf
  have hI : PthI κ0 ρ0 sc n mc B z T κb ρ c0 S (P A) st.length κb ρ i c0 0 := by
    refine ⟨hPb, ⟨?_, m2⟩, fun q hq => by omega, ⟨c0n, fun _ => c0, rfl, rfl, fun q hq => by omega⟩, ⟨Eqv.rf, Eqv.rf⟩, by omega, by omega, by omega⟩
    subst eb; exact I_is _ _ _ _
  have goC : ∀ ρ1 (Q : Int32 → Mem → Prop), Lw (X_X4_readPath_33_s G (fun w8 s7 => ((w8 = 0 → X_X4_readTerm_72 G Q s7) ∧ (¬ w8 = 0 → X_X4_readSign G (fun w10 s9 => ((w10 = 0 → X_X4_readTerm_72 G Q s9) ∧ (¬ w10 = 0 → X_X4_readOperand G (fun w12 s11 => ((w12 = 0 → X_X4_readTerm_72 G Q s11) ∧ (¬ w12 = 0 → X_X4_readTerm_73 G Q (1 : Int32) s11))) 11 w8 s9))) 11 s7))) 11 0 (nI (P A + 1))) (nI c0, 1, 0, nI (0 + 1), mg κb ρ1) → X_X4_readTerm G Q 11 (mg κ ρ1) := fun ρ1 Q hh => by
    unfold X_X4_readTerm X_X4_readTerm_0
    rw [i110 hC]
    refine ⟨g5, g9, c_takes0 hL hC hTC (nK a (by decide) rfl) (br0 ?_)⟩
    rw [i111 hC]
    refine ⟨g4, q_add hL hC c2 (by omega) ?_⟩
    have hC3 : StC (sI (sI κ 9 (P A) 4) 8 1 (nI (P A + 1))) := (hC.wI _ _ _).wI _ _ _
    unfold X_X4_readPath X_X4_readPath_0
    rw [i111 hC3, mI_c (by decide), I_is]
    refine ⟨g5, g4, q_add hL hC3 (I_is _ _ _ _) (by omega) ?_⟩
    rw [← eb, i111 hCb, mI_c (by decide), show mI κb 8 0 = nI c0 from by subst eb; simp (disch := omega) only [I_is, I_cl, I_sl, J_is, J_cl, J_sl, R_is, R_cl, R_sl, mI_sJ, mI_sR, mJ_sI, mJ_sR, mR_sI, mR_sJ]; exact c1]
    exact ⟨g4, hh⟩
  have goM : ∀ κ1 (Q : Int32 → Mem → Prop), Lw (X_X12_readPath_16_s G Q 1282 0 (nI S)) (nI c0, 0, 1, mg κ1 ρ) → X_X12_readPath G Q 1282 0 (mg κ1 ρ) := fun κ1 Q hh => by
    unfold X_X12_readPath X_X12_readPath_0
    rw [mI_m (by decide), mI_m (by decide), m4, m2]
    exact ⟨hM.1, hh⟩
  rcases j_path hG hS hN (T - i) i c0 0 κb ρ 0 0 rfl hI with ⟨κf, ρf, x1, x2, x3⟩ | ⟨κf, ρf, i', c', m', nn', x0, x1, x2, x3⟩
  · exact Jq.fail (fun ρ1 Q hQ => goC ρ1 Q (x2 ρ1 _ (brT rfl ⟨bz0, hQ⟩))) (fun κ1 Q hQ => goM κ1 Q (x3 κ1 Q hQ)) x1
  · obtain ⟨hPf, ⟨z1, z2, z3⟩, z4, ⟨z5, z6, z7, z8⟩, ⟨z9, z10⟩, ⟨z11, z12⟩, -⟩ := x1
    obtain ⟨⟨hCf, hmf⟩, ⟨hTCf, hTMf⟩, -⟩ := id hPf
    have hzf := hTCf.zz
    have x' : ¬ mR κ0 (sc + 5 + 5 * c') m' = 0 := by have := (hS.mem z5 z6).1; omega
    have fCa : Eqv (tfC (P A)) κ κf := by
      refine Eqv.tr ?_ (z9.mo fun a k hh => by unfold tfC at hh; unfold pfC; omega)
      subst eb
      refine (((Eqv.wI ?_ _).sI ?_ _).sI ?_ _).sI ?_ _
      all_goals exact fun h => h (by omega)
    have fMa : Eqv (tfM A S) ρ ρf := z10.mo fun a k hh => by unfold tfM at hh; unfold pfM; omega
    by_cases hsg : ∃ s, (s = 61 ∨ s = 60 ∨ s = 62) ∧ sgA B z (pos B z i') s
    · obtain ⟨s, hs3, hsg⟩ := hsg
      have hi : i' < T := hTCf.lt (by rw [hsg.1]; decide)
      obtain ⟨ρ2, r2, s2, e2, t2⟩ := m_adv hM hmf hTCf hTMf hi
      have e53 : mI ρf 1282 53 = nI s := by rw [hTMf.2.2.2.2.2.2 hsg.1, hsg.2]
      obtain ⟨κw, ew⟩ : ∃ κw, κw = sI (sI κf 9 (P A + 3 + nn') (nI s)) 8 1 (nI (P A + 3 + nn' + 1)) := ⟨_, rfl⟩
      have hCw : StC κw := by subst ew; exact (hCf.wI _ _ _).wI _ _ _
      have frw : Eqv (fun a k => ¬ (a = 9 ∧ k = P A + 3 + nn' ∨ a = 8 ∧ k = 1)) κf κw := by subst ew; exact (Eqv.wI (fun h => h (by omega)) _).sI (fun h => h (by omega)) _
      have hPw : QP κ0 ρ0 sc B z T κw ρf i' := hPf.fr hCw hmf (frw.mo fun a k hh => by unfold qrC at hh; omega) Eqv.rf
      have hP2 := hPw.ps hi s2 e2 t2
      obtain ⟨-, ⟨hTCw, -⟩, -⟩ := id hPw
      have g : ∀ a k, a ≠ 1282 → mI ρ2 a k = mI ρf a k := fun a k h => e2.I (by unfold avM; omega)
      have gk : ∀ k, k < P A + 3 + nn' → mI (psC κw i') 9 k = mI κf 9 k := fun k hk => by rw [I_cl (by decide), frw.I (by omega)]
      have hO : OpI κ0 ρ0 sc n mc B z T c0 κ ρ i st.length A S (P A) c' m' nn' s (psC κw i') ρ2 (i' + 1) := by
        refine ⟨hP2, ⟨(fCa.tr (frw.mo fun a k hh => by unfold tfC at hh; omega)).sI (fun h => h (by omega)) _, fMa.tr (e2.mo fun a k hh => by unfold tfM at hh; unfold avM; omega)⟩, ⟨?_, ?_, ?_⟩, ⟨?_, ?_, ?_⟩, fun q hq => ?_, ⟨z5, z6, z7.fr (fun q hq => g _ _ (by decide)) (fun j => ⟨g _ _ (by decide), g _ _ (by decide)⟩), ?_⟩, by omega, by omega, by omega⟩
        · rw [I_cl (by decide)]; subst ew; rw [I_is, show P A + 3 + nn' + 1 = P A + 4 + nn' by omega]
        · rw [e2.I (by unfold avM; omega), z10.I (by unfold pfM; omega)]; exact m1
        · rw [e2.I (by unfold avM; omega)]; exact z3
        · rw [gk _ (by omega), z9.I (by unfold pfC; omega)]; subst eb; simp (disch := omega) only [I_is, I_cl, I_sl, J_is, J_cl, J_sl, R_is, R_cl, R_sl, mI_sJ, mI_sR, mJ_sI, mJ_sR, mR_sI, mR_sJ]
        · rw [gk _ (by omega)]; exact z2
        · rw [I_cl (by decide)]; subst ew; simp (disch := omega) only [I_is, I_cl, I_sl, J_is, J_cl, J_sl, R_is, R_cl, R_sl, mI_sJ, mI_sR, mJ_sI, mJ_sR, mR_sI, mR_sJ]
        · rw [gk _ (by omega), g _ _ (by decide)]; exact z4 q hq
        · rw [g _ _ (by decide)]; exact z8
      have sgC : ∀ ρ1 (Q : Int32 → Mem → Prop), Q 1 (mg (psC κw i') ρ1) → X_X4_readSign G Q 11 (mg κf ρ1) := fun ρ1 Q hQ => by
        have r47 : X_X4_readSign_47 G Q 11 (mg κf ρ1) := by
          unfold X_X4_readSign_47
          rw [i110 hCf]
          refine ⟨g5, g9, c_wordS hL hCf hTCf hsg.1 ?_⟩
          have ei : (lN (B (pos B z i'))).toInt32 = nI s := by rw [hsg.2]; rcases hs3 with rfl | rfl | rfl <;> rfl
          rw [i111 hCf, ei]
          refine ⟨g4, q_add hL hCf z1 (by omega) ?_⟩
          rw [← ew, i110 hCw]
          exact ⟨g9, c_pass hL hCw hTCw hi ⟨bz1, hQ⟩⟩
        unfold X_X4_readSign X_X4_readSign_0
        rw [i110 hCf]
        by_cases e1 : s = 61
        · subst e1
          exact ⟨g5, g9, c_isAt1 hL hCf hTCf (aS hsg (by decide) rfl) (br1 r47)⟩
        · have n1 : ¬ sgA B z (pos B z i') 61 := fun x => e1 (hsg.2.symm.trans x.2)
          refine ⟨g5, g9, c_isAt0 hL hCf hTCf (nS n1 (by decide) rfl) (br0 ?_)⟩
          rw [i110 hCf]
          by_cases e2 : s = 60
          · subst e2
            exact ⟨g9, c_isAt1 hL hCf hTCf (aS hsg (by decide) rfl) (br1 r47)⟩
          · have n2 : ¬ sgA B z (pos B z i') 60 := fun x => e2 (hsg.2.symm.trans x.2)
            have e3 : s = 62 := by omega
            subst e3
            refine ⟨g9, c_isAt0 hL hCf hTCf (nS n2 (by decide) rfl) (br0 ?_)⟩
            rw [i110 hCf]
            exact ⟨g9, c_isAt1 hL hCf hTCf (aS hsg (by decide) rfl) (br1 r47)⟩
      obtain ⟨r, κe, ρe, rC', rM', hh⟩ := j_operand hG hS hN h hO
      refine ⟨r, κe, ρe, fun ρ1 Q hQ => goC ρ1 Q (x2 ρ1 _ (brF x' (sgC ρ1 _ (br1 (rC' ρ1 _ ?_))))), fun κ1 Q hQ => goM κ1 Q (x3 κ1 Q fun c2 => Lw.fin fun K => ?_), hh⟩
      · rcases hh with ⟨rfl, -⟩ | ⟨rfl, -⟩
        · exact br0 ⟨bz0, hQ⟩
        · exact br1 ⟨bz1, hQ⟩
      · have r238 : X_X12_readPath_238 G Q 1282 (nI S) (nI (16 * c' + m')) (mg κ1 ρf) := by
          unfold X_X12_readPath_238
          rw [mI_m (by decide), e53]
          exact ⟨hM.1, r2 κ1 _ (rM' κ1 Q hQ)⟩
        refine brT rfl (brT rfl ⟨hM.1, ?_⟩)
        by_cases e1 : s = 61
        · subst e1
          exact m_is1 (s := 61) hM hTMf hsg (br1 r238)
        · have n1 : ¬ sgA B z (pos B z i') 61 := fun x => e1 (hsg.2.symm.trans x.2)
          refine m_is0 (s := 61) hM hTMf (by decide) n1 (br0 ?_)
          by_cases e2 : s = 60
          · subst e2
            exact m_is1 (s := 60) hM hTMf hsg (br1 r238)
          · have n2 : ¬ sgA B z (pos B z i') 60 := fun x => e2 (hsg.2.symm.trans x.2)
            have e3 : s = 62 := by omega
            subst e3
            exact m_is0 (s := 60) hM hTMf (by decide) n2 (br0 (m_is1 (s := 62) hM hTMf hsg (br1 r238)))
    · have ns : ∀ s, (s = 61 ∨ s = 60 ∨ s = 62) → ¬ sgA B z (pos B z i') s := fun s h1 h2 => hsg ⟨s, h1, h2⟩
      refine Jq.fail (fun ρ1 Q hQ => goC ρ1 Q (x2 ρ1 _ (brF x' ?_))) (fun κ1 Q hQ => goM κ1 Q (x3 κ1 Q fun c2 => Lw.fin fun K => brT rfl (brT rfl ⟨hM.1, m_is0 (s := 61) hM hTMf (by decide) (ns 61 (by decide)) (br0 (m_is0 (s := 60) hM hTMf (by decide) (ns 60 (by decide)) (br0 (m_is0 (s := 62) hM hTMf (by decide) (ns 62 (by decide)) (br0 (m_wrong hM hTMf ⟨bz0, hQ⟩))))))⟩))) (hPf.fail (flt B z (pos B z i')) (p := pos B z i'))
      unfold X_X4_readSign X_X4_readSign_0
      rw [i110 hCf]
      refine ⟨g5, g9, c_isAt0 hL hCf hTCf (nS (ns 61 (by decide)) (by decide) rfl) (br0 ?_)⟩
      rw [i110 hCf]
      refine ⟨g9, c_isAt0 hL hCf hTCf (nS (ns 60 (by decide)) (by decide) rfl) (br0 ?_)⟩
      rw [i110 hCf]
      refine ⟨g9, c_isAt0 hL hCf hTCf (nS (ns 62 (by decide)) (by decide) rfl) (br0 ?_)⟩
      rw [i110 hCf]
      exact ⟨g9, c_misplaced hL hCf hTCf ⟨bz0, br0 ⟨bz0, hQ⟩⟩⟩
end QT3
