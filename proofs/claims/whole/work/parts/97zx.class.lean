section CLS2
variable {G : Lay} {κ0 ρ0 κ κ' ρ ρ' ρ2 : Mem} {sd z T i c n nw p t lo : Nat} {B : Nat → Nat} {mc rt hc ow tb : Nat → Nat} {w : Int64} {pa wy : Int32}
theorem m_newCls {κ1 : Mem} (hM : LyM G) (hm : StM ρ) (hn : n < 12) {Q : Mem → Prop} (q : Q (mg κ1 (sI (sI (sI (sI (sJ ρ 1284 (13 + n) w) 1285 (13 + n) (-1)) 1286 (13 + n) 0) 1287 (13 + n) 0) 1288 (13 + n) 0))) : gT G (mR (mg κ1 ρ) 1282 3) = 103 ∧ vp_in (nI (13 + n)) (gL G (mR (mg κ1 ρ) 1282 3)) ∧ ∀ s8, s8 = sJ (mg κ1 ρ) (mR (mg κ1 ρ) 1282 3) (nI (13 + n)).toNatClampNeg w → gT G (mR s8 1282 4) = 100 ∧ vp_in (nI (13 + n)) (gL G (mR s8 1282 4)) ∧ ∀ s11, s11 = sI s8 (mR s8 1282 4) (nI (13 + n)).toNatClampNeg (-1 : Int32) → gT G (mR s11 1282 5) = 100 ∧ vp_in (nI (13 + n)) (gL G (mR s11 1282 5)) ∧ ∀ s14, s14 = sI s11 (mR s11 1282 5) (nI (13 + n)).toNatClampNeg (0 : Int32) → gT G (mR s14 1282 6) = 100 ∧ vp_in (nI (13 + n)) (gL G (mR s14 1282 6)) ∧ ∀ s17, s17 = sI s14 (mR s14 1282 6) (nI (13 + n)).toNatClampNeg (0 : Int32) → gT G (mR s17 1282 7) = 100 ∧ vp_in (nI (13 + n)) (gL G (mR s17 1282 7)) ∧ ∀ s20, s20 = sI s17 (mR s17 1282 7) (nI (13 + n)).toNatClampNeg (0 : Int32) → Q s20 := by
  simp (disch := omega) only [mI_m, mR_m, mJ_m, sI_m, sJ_m, hM.1, hM.2, hm.1, hm.2, lT, lF, tT, tF, eF, pF, zT, m1F, vT, cI, true_and, and_true, true_implies, false_implies, not_false_eq_true, not_true_eq_false, forall_eq, implies_true, I_is, I_cl, I_sl, J_is, J_cl, J_sl, R_is, R_cl, R_sl, mI_sJ, mI_sR, mJ_sI, mJ_sR, mR_sI, mR_sJ]
  exact q
theorem j_class (hG : Ly G) (hP : PS κ0 ρ0 sd B z T κ ρ i) (hR : DRf sd n nw mc rt hc ow tb κ ρ) : Jh G κ0 ρ0 sd n (fun Q σ => HdC G Q σ) (fun Q σ => X_X12_readClass G Q 1282 σ) (CPost κ0 ρ0 sd B z T i n nw) κ ρ := by
  have hL := hG.1
  have hM := hG.2.2.2
  obtain ⟨⟨hC, hm⟩, ⟨hTC, hTM⟩, -, h71, hs⟩ := id hP
  obtain ⟨hB, hN, ⟨q1, q2, q3⟩, q4, q5⟩ := id hR
  have h12 := hB.2.2.1
  have hz := hTC.zz
  have hT := hG.s hs
  have n13 : (13 : Int32) = nI 13 := rfl
  have i70 : ∀ {κ ρ1 : Mem}, StC κ → mR (mg κ ρ1) 7 0 = 3 := fun {κ ρ1} hC => (mR_c (by decide) _).trans hC.1.2.2.2.2.2.2.2.2.2.2.2.2.2.1
  have g9 : gT G 3 = 9 := hL.1.2.2.2.1
  by_cases hn : nmT B z (pos B z i)
  · have hi : i < T := hTC.lt (by rw [hn.1]; decide)
    have hw := wd_rel hTM.lo hn.1
    have hwd : ∀ m, m < n → (mJ κ (sd + 4 + 5 * m) 0 = wdx B z (pos B z i) ↔ mJ ρ 1284 (13 + m) = wdy B z (pos B z i)) := fun m hm => ((hB.1 m hm).1.1).iff hw
    have e52 : mJ ρ 1282 52 = wdy B z (pos B z i) := hTM.2.2.2.2.1 hn.1
    by_cases hd : ∃ m, m < n ∧ mJ κ (sd + 4 + 5 * m) 0 = wdx B z (pos B z i)
    · obtain ⟨p, m1, m2, m3⟩ := fst_lt hd
      refine Jh.fail (fun ρ1 Q hQ => ?_) (fun κ1 Q hQ => ⟨hM.1, m_isName1 hM hTM hn (br1 ?_)⟩) (hP.fail 3 (p := pos B z i))
      · unfold HdC
        rw [i70 hC]
        refine ⟨g9, c_isName1 hL hC hTC hn (br1 ?_)⟩
        rw [i70 hC]
        refine ⟨g9, c_word hL hC hTC hn.1 ?_⟩
        rw [mR_c (by decide), h71]
        refine ⟨hT.1.1, c_classNamed1 hG hC hs q1 (by omega) m1 m2 m3 (brF (mI1 (by omega)) ?_)⟩
        rw [i70 hC]
        exact ⟨g9, c_refuse hL hC hTC ⟨bz0, hQ⟩⟩
      · rw [mJ_m (by decide), mI_m (by decide), e52, q4]
        exact m_classNamed1 (b := 13) hM hm (by omega) (by omega) m1 ((hwd p m1).mp m2) (fun j hj e => m3 j hj ((hwd j (by omega)).mpr e)) (brF (pI (by omega)) (m_fails hM hTM ⟨bz0, hQ⟩))
    · have hd : ∀ m, m < n → mJ κ (sd + 4 + 5 * m) 0 ≠ wdx B z (pos B z i) := fun m hm e => hd ⟨m, hm, e⟩
      have stC : ∀ ρ1 (Q : Int32 → Mem → Prop), ((nI n < (12 : Int32) → gT G 3 = 9 ∧ X_X8_pass G (fun s16 => X_X0_readOrigin G (fun w18 s17 => (bz w18 ∧ Q w18 s17)) 7 (wdx B z (pos B z i)) s16) 3 (mg κ ρ1)) ∧ (¬ nI n < (12 : Int32) → gT G 3 = 9 ∧ X_X8_refuse G (fun w21 s20 => (bz w21 ∧ Q w21 s20)) 3 (4 : Int32) (mg κ ρ1))) → HdC G Q (mg κ ρ1) := fun ρ1 Q hh => by
        unfold HdC
        rw [i70 hC]
        refine ⟨g9, c_isName1 hL hC hTC hn (br1 ?_)⟩
        rw [i70 hC]
        refine ⟨g9, c_word hL hC hTC hn.1 ?_⟩
        rw [mR_c (by decide), h71]
        refine ⟨hT.1.1, c_classNamed0 hG hC hs q1 (by omega) hd (brT rfl ?_)⟩
        rw [i70 hC, mR_c (by decide), h71, mI_c (by omega), q1]
        exact ⟨hT.1.1, hh⟩
      by_cases hf : n = 12
      · refine Jh.fail (fun ρ1 Q hQ => stC ρ1 Q (brF ?_ ⟨g9, c_refuse hL hC hTC ⟨bz0, hQ⟩⟩)) (fun κ1 Q hQ => ⟨hM.1, m_isName1 hM hTM hn (br1 ?_)⟩) (hP.fail 4 (p := pos B z i))
        · rw [hf]; decide
        · rw [mJ_m (by decide), mI_m (by decide), e52, q4]
          refine m_classNamed0 (b := 13) hM hm (by omega) (by omega) (fun j hj e => hd j hj ((hwd j hj).mpr e)) (brT m1_neg (brT ?_ (m_fails hM hTM ⟨bz0, hQ⟩)))
          rw [mI_m (by decide), q4, hf]
          rfl
      · have hn12 : n < 12 := by omega
        obtain ⟨ρw, eρ⟩ : ∃ ρw, ρw = sI (sI (sI (sI (sJ ρ 1284 (13 + n) (wdy B z (pos B z i))) 1285 (13 + n) (-1)) 1286 (13 + n) 0) 1287 (13 + n) 0) 1288 (13 + n) 0 := ⟨_, rfl⟩
        have hmw : StM ρw := by subst eρ; exact ((((hm.wJ _ _ _).wI _ _ _).wI _ _ _).wI _ _ _).wI _ _ _
        have frW : Eqv (fun a k => ¬ (1284 ≤ a ∧ a ≤ 1288 ∧ k = 13 + n)) ρ ρw := by
          subst eρ
          refine ((((Eqv.wJ ?_ _).sI ?_ _).sI ?_ _).sI ?_ _).sI ?_ _
          all_goals exact fun h => h (by omega)
        have hPw : PS κ0 ρ0 sd B z T κ ρw i := hP.fr hC hmw Eqv.rf (frW.mo fun a k hh => by unfold drM upM at hh; omega)
        have hRw : DRf sd n nw mc rt hc ow tb κ ρw := by
          refine hR.frM (frW.mo fun a k hh => ?_)
          rcases hh with (⟨c', hc', hh | ⟨hh1, hh2, m, hm, hh⟩ | ⟨hh1, hh2, m, hm, hh⟩⟩ | hh) | hh | hh <;> omega
        have hHw : PHd n mc (wdx B z (pos B z i)) ρw (-1) 0 := by
          subst eρ
          refine ⟨?_, ?_, ?_, Or.inl ⟨rfl, ?_, Or.inl rfl, ?_⟩⟩
          · simp (disch := omega) only [I_is, I_cl, I_sl, J_is, J_cl, J_sl, R_is, R_cl, R_sl, mI_sJ, mI_sR, mJ_sI, mJ_sR, mR_sI, mR_sJ]; exact hw
          · simp (disch := omega) only [I_is, I_cl, I_sl, J_is, J_cl, J_sl, R_is, R_cl, R_sl, mI_sJ, mI_sR, mJ_sI, mJ_sR, mR_sI, mR_sJ]
          · simp (disch := omega) only [I_is, I_cl, I_sl, J_is, J_cl, J_sl, R_is, R_cl, R_sl, mI_sJ, mI_sR, mJ_sI, mJ_sR, mR_sI, mR_sJ]
          · simp (disch := omega) only [I_is, I_cl, I_sl, J_is, J_cl, J_sl, R_is, R_cl, R_sl, mI_sJ, mI_sR, mJ_sI, mJ_sR, mR_sI, mR_sJ]
          · simp (disch := omega) only [I_is, I_cl, I_sl, J_is, J_cl, J_sl, R_is, R_cl, R_sl, mI_sJ, mI_sR, mJ_sI, mJ_sR, mR_sI, mR_sJ]
        obtain ⟨-, ⟨hTCw, hTMw⟩, -⟩ := id hPw
        obtain ⟨ρ2, r2, s2, e2, t2⟩ := m_adv hM hmw hTCw hTMw hi
        have hP2 := hPw.ps hi s2 e2 t2
        refine Jh.stp (fun ρ1 Q hq => stC ρ1 Q (brT ?_ ⟨g9, c_pass hL hC hTC hi hq⟩)) (fun κ1 Q hq => ⟨hM.1, m_isName1 hM hTM hn (br1 ?_)⟩) (j_origin hG hP2 (hRw.av hs e2) hn12 (hHw.fr e2) (by omega : i ≤ i + 1))
        · exact (tI (by omega) (b := 12) (by decide)).mpr hn12
        · rw [mJ_m (by decide), mI_m (by decide), e52, q4]
          refine m_classNamed0 (b := 13) hM hm (by omega) (by omega) (fun j hj e => hd j hj ((hwd j hj).mpr e)) (brT m1_neg (brF ?_ ?_))
          · rw [mI_m (by decide), q4]
            exact fun e => hf ((eI (by omega) (b := 12) (by decide)).mp e)
          · have e13 : (13 : Int32) + nI n = nI (13 + n) := by rw [n13, nI_add]
            rw [mI_m (by decide), q4]
            rw [mJ_m (by decide), e52, e13]
            refine m_newCls hM hm hn12 ?_
            rw [← eρ]
            exact r2 κ1 _ hq
  · refine Jh.fail (fun ρ1 Q hQ => ?_) (fun κ1 Q hQ => ⟨hM.1, m_isName0 hM hTM hn (br0 (m_wrong hM hTM ⟨bz0, hQ⟩))⟩) (hP.fail (flt B z (pos B z i)) (p := pos B z i))
    unfold HdC
    rw [i70 hC]
    refine ⟨g9, c_isName0 hL hC hTC hn (br0 ?_)⟩
    rw [i70 hC]
    exact ⟨g9, c_misplaced hL hC hTC ⟨bz0, hQ⟩⟩
end CLS2
