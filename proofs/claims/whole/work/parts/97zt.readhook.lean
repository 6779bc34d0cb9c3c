/-! readHook, side by side -/
def hfC (sd c h a q : Nat) : Prop := ¬ (a = 3 ∧ q = 4 ∨ (a = sd + 6 + 5 * c ∨ a = sd + 7 + 5 * c ∨ a = sd + 8 + 5 * c) ∧ q = h ∨ a = sd + 4 + 5 * c ∧ q = 6)
def hfM (c h a q : Nat) : Prop := ¬ (a = 1282 ∧ 49 ≤ q ∧ q ≤ 53 ∨ 1301 ≤ a ∧ a ≤ 1303 ∧ q = 4 * (13 + c) + h ∨ a = 1288 ∧ q = 13 + c)
def HPost (κ0 ρ0 : Mem) (sd : Nat) (B : Nat → Nat) (z T : Nat) (κa : Mem) (lo c nw : Nat) (mc rt hc ow tb : Nat → Nat) (κ ρ : Mem) : Prop := ∃ i, lo < i ∧ PS κ0 ρ0 sd B z T κ ρ i ∧ DRf sd (c + 1) nw mc rt (updN hc c (hc c + 1)) ow tb κ ρ ∧ mR κ 7 2 = mR κa 7 2
section RDH
variable {G : Lay} {κ0 ρ0 κ κ' ρ ρ' ρ2 ρp : Mem} {sd z T i c nw n lo : Nat} {B : Nat → Nat} {mc rt hc ow tb : Nat → Nat}
theorem DRf.av (h : DRf sd n nw mc rt hc ow tb κ ρ) (hs : sd = 14 ∨ sd = 275) (e : Eqv avM ρ ρ2) : DRf sd n nw mc rt hc ow tb (psC κ i) ρ2 := by
  obtain ⟨hB, hN, ⟨q1, q2, q3⟩, q4, q5⟩ := h
  refine ⟨hB.fr (Eqv.wI ?_ _) (e.mo fun a q hh => ?_), fun c hc => ?_, ⟨?_, ?_, ?_⟩, ?_, ?_⟩
  · rintro (⟨c', hc', hh⟩ | hh | hh) <;> omega
  · rcases hh with ⟨c', hc', hh | ⟨hh1, hh2, m, hm, hh⟩ | ⟨hh1, hh2, m, hm, hh⟩⟩ | hh <;> (unfold avM; omega)
  · obtain ⟨⟨k1, k2⟩, k3, k4⟩ := hN c hc
    refine ⟨⟨?_, ?_⟩, ?_, ?_⟩
    · rw [I_cl (by omega)]; exact k1
    · rw [e.I (by unfold avM; omega)]; exact k2
    · rw [I_cl (by omega)]; exact k3
    · rw [e.I (by unfold avM; omega)]; exact k4
  · rw [I_cl (by omega)]; exact q1
  · rw [I_cl (by omega)]; exact q2
  · rw [I_cl (by omega)]; exact q3
  · rw [e.I (by unfold avM; omega)]; exact q4
  · rw [e.I (by unfold avM; omega)]; exact q5
theorem DRf.addH (h : DRf sd (c + 1) nw mc rt hc ow tb κ ρ) (hs : sd = 14 ∨ sd = 275) (e1 : Eqv (hfC sd c (hc c)) κ κ') (e2 : Eqv (hfM c (hc c)) ρ ρ') (n1 : mI κ' (sd + 4 + 5 * c) 6 = nI (hc c + 1)) (n2 : mI ρ' 1288 (13 + c) = nI (hc c + 1)) (h4 : hc c < 4) (hD : DHok sd mc κ' ρ' c (hc c)) : DRf sd (c + 1) nw mc rt (updN hc c (hc c + 1)) ow tb κ' ρ' := by
  obtain ⟨hB, hN, ⟨q1, q2, q3⟩, q4, q5⟩ := h
  have law := hB.2.1
  have h12 := hB.2.2.1
  have hB2 : DB sd (c + 1) nw mc rt hc ow tb κ' ρ' := by
    refine hB.fr (e1.mo fun a q hh => ?_) (e2.mo fun a q hh => ?_)
    · unfold hfC
      rcases hh with ⟨c', hc', hh⟩ | hh | hh
      · by_cases e : c' = c
        · subst e; omega
        · omega
      · omega
      · omega
    · unfold hfM
      rcases hh with ⟨c', hc', hh | ⟨hh1, hh2, m, hm, hh⟩ | ⟨hh1, hh2, m, hm, hh⟩⟩ | hh
      · omega
      · omega
      · have := law.2 c' hc'
        by_cases e : c' = c
        · subst e; omega
        · omega
      · omega
  obtain ⟨z1, z2, z3, z4⟩ := hB2
  refine ⟨⟨fun c' hc' => ?_, ⟨law.1, fun c' hc' => ?_⟩, z3, z4⟩, fun c' hc' => ?_, ⟨?_, ?_, ?_⟩, ?_, ?_⟩
  · obtain ⟨a1, a2, a3, a4⟩ := z1 c' hc'
    refine ⟨a1, a2, a3, fun q hq => ?_⟩
    by_cases e : c' = c
    · subst e
      rw [updN_is] at hq
      by_cases e2 : q = hc c'
      · subst e2; exact hD
      · exact a4 q (by omega)
    · rw [updN_no e] at hq; exact a4 q hq
  · have l := law.2 c' hc'
    by_cases e : c' = c
    · subst e; rw [updN_is]; omega
    · rw [updN_no e]; exact l
  · obtain ⟨⟨k1, k2⟩, k3, k4⟩ := hN c' hc'
    refine ⟨⟨?_, ?_⟩, ?_⟩
    · rw [e1.I (by unfold hfC; omega)]; exact k1
    · rw [e2.I (by unfold hfM; omega)]; exact k2
    · by_cases e : c' = c
      · subst e; rw [updN_is]; exact ⟨n1, n2⟩
      · rw [updN_no e]
        refine ⟨?_, ?_⟩
        · rw [e1.I (by unfold hfC; omega)]; exact k3
        · rw [e2.I (by unfold hfM; omega)]; exact k4
  · rw [e1.I (by unfold hfC; omega)]; exact q1
  · rw [e1.I (by unfold hfC; omega)]; exact q2
  · rw [e1.I (by unfold hfC; omega)]; exact q3
  · rw [e2.I (by unfold hfM; omega)]; exact q4
  · rw [e2.I (by unfold hfM; omega)]; exact q5
theorem j_hook2 (hG : Ly G) (hP : PS κ0 ρ0 sd B z T κ ρ i) (ra : RunM0 (fun Q σ => X_X12_advance G Q 1282 σ) ρp ρ) (hR : DRf sd (c + 1) nw mc rt hc ow tb κ ρ) (h72 : mR κ 7 2 = sd + 4 + 5 * c) (h4 : hc c < 4) (hlo : lo ≤ i) {o w : Nat} (how : o = 1 ∧ w = 0 ∨ o = 0 ∧ w = 1) : Jo κ0 ρ0 sd (fun Q σ => X_X0_readHook_57 G Q 7 (nI o) σ) (fun Q σ => X_X12_readHook_42 G Q 1282 (nI (13 + c)) (nI (16 + w)) σ) (HPost κ0 ρ0 sd B z T κ lo c nw mc rt hc ow tb) κ ρp := by
  have hL := hG.1
  have hM := hG.2.2.2
  obtain ⟨⟨hC, hm⟩, ⟨hTC, hTM⟩, -, h71, hs⟩ := id hP
  obtain ⟨hB, hN, ⟨q1, q2, q3⟩, q4, q5⟩ := id hR
  have hz := hTC.zz
  have h12 := hB.2.2.1
  have law := hB.2.1.2 c (by omega)
  have hT := hG.s hs
  have hK := hC.ss hs
  obtain ⟨⟨k1, k2⟩, k3, k4⟩ := hN c (by omega)
  have hr : ∀ j, j < mc c → sd + 64 ≤ mR κ (sd + 5 + 5 * c) j ∧ mR κ (sd + 5 + 5 * c) j < sd + 256 := fun j hj => by
    have := (hB.mem (show c < c + 1 by omega) hj).1
    have := hB.2.1.le (c + 1) (Nat.le_refl _)
    omega
  have g2c := hT.2.1 c (by omega)
  by_cases hn : nmT B z (pos B z i)
  · have hi : i < T := hTC.lt (by rw [hn.1]; decide)
    have hw := wd_rel hTM.lo hn.1
    have hwd : ∀ m, m < mc c → (mJ κ (mR κ (sd + 5 + 5 * c) m) 0 = wdx B z (pos B z i) ↔ mJ ρ 1289 (16 * (13 + c) + m) = wdy B z (pos B z i)) := fun m hm => (hB.mem (show c < c + 1 by omega) hm).2.1.iff hw
    have e52 : mJ ρ 1282 52 = wdy B z (pos B z i) := hTM.2.2.2.2.1 hn.1
    by_cases hd : ∃ m, m < mc c ∧ mJ κ (mR κ (sd + 5 + 5 * c) m) 0 = wdx B z (pos B z i)
    · obtain ⟨m, m1, m2, m3⟩ := fst_lt hd
      obtain ⟨-, -, kd, kd1, kd2, kd3⟩ := hB.mem (show c < c + 1 by omega) m1
      have hrm := hr m m1
      have g3 : gT G (mR κ (sd + 5 + 5 * c) m) = 3 := by
        have := hT.2.2 (mR κ (sd + 5 + 5 * c) m - (sd + 64)) (by omega)
        rw [show sd + 64 + (mR κ (sd + 5 + 5 * c) m - (sd + 64)) = mR κ (sd + 5 + 5 * c) m by omega] at this
        exact this
      have pre : ∀ ρ1 (Q : Int32 → Mem → Prop), ((nI kd = 0 → X_X8_pass G (fun s16 => gT G (mR s16 7 0) = 9 ∧ X_X8_expects G (fun w19 s18 => ((w19 = 0 → (bz (0 : Int32) ∧ Q (0 : Int32) s18)) ∧ (¬ w19 = 0 → gT G (mR s18 7 0) = 9 ∧ X_X8_isNumber G (fun w22 s21 => ((w22 = 0 → gT G (mR s21 7 0) = 9 ∧ X_X8_misplaced G (fun w47 s46 => (bz w47 ∧ Q w47 s46)) (mR s21 7 0) s21) ∧ (¬ w22 = 0 → gT G (mR s21 7 2) = 2 ∧ gT G (mR s21 (mR s21 7 2) 7) = 102 ∧ vp_in (mI s21 (mR s21 7 2) 6) (gL G (mR s21 (mR s21 7 2) 7)) ∧ ∀ s26, s26 = sI s21 (mR s21 (mR s21 7 2) 7) (mI s21 (mR s21 7 2) 6).toNatClampNeg (vp_nar .boolean (nI o)) → gT G (mR s26 7 2) = 2 ∧ gT G (mR s26 (mR s26 7 2) 8) = 100 ∧ vp_in (mI s26 (mR s26 7 2) 6) (gL G (mR s26 (mR s26 7 2) 8)) ∧ ∀ s30, s30 = sI s26 (mR s26 (mR s26 7 2) 8) (mI s26 (mR s26 7 2) 6).toNatClampNeg (nI m) → gT G (mR s30 7 2) = 2 ∧ gT G (mR s30 7 0) = 9 ∧ X_X8_number G (fun w34 s33 => gT G (mR s30 (mR s30 7 2) 9) = 100 ∧ vp_in (mI s30 (mR s30 7 2) 6) (gL G (mR s30 (mR s30 7 2) 9)) ∧ ∀ s37, s37 = sI s33 (mR s30 (mR s30 7 2) 9) (mI s30 (mR s30 7 2) 6).toNatClampNeg w34 → gT G (mR s37 7 2) = 2 ∧ ∀ s39, s39 = sI s37 (mR s37 7 2) 6 ((mI s37 (mR s37 7 2) 6) + (1 : Int32)) → gT G (mR s39 7 0) = 9 ∧ X_X8_pass G (fun s41 => gT G (mR s41 7 0) = 9 ∧ X_X8_expects G (fun w44 s43 => (bz w44 ∧ Q w44 s43)) (mR s41 7 0) (59 : Int64) s41) (mR s39 7 0) s39) (mR s30 7 0) s30))) (mR s18 7 0) s18))) (mR s16 7 0) (43 : Int64) s16) 3 (mg κ ρ1)) ∧ (¬ nI kd = 0 → X_X0_readHook_110 G Q 7 (mg κ ρ1))) → X_X0_readHook_57 G Q 7 (nI o) (mg κ ρ1) := fun ρ1 Q hh => by
        simp (disch := omega) only [X_X0_readHook_57, mI_c, mR_c, mJ_c, sI_c, sJ_c, sR_c, hL.1, hL.2.1, hL.2.2, hC.1, hC.2.1, hC.2.2.1, lT, lF, tT, tF, eF, pF, zT, m1F, vT, cI, true_and, and_true, true_implies, false_implies, not_false_eq_true, not_true_eq_false, forall_eq, implies_true]
        refine c_isName1 hL hC hTC hn (br1 ?_)
        simp (disch := omega) only [mI_c, mR_c, mJ_c, sI_c, sJ_c, sR_c, hL.1, hL.2.1, hL.2.2, hC.1, hC.2.1, hC.2.2.1, h72, g2c, lT, lF, tT, tF, eF, pF, zT, m1F, vT, cI, true_and, and_true, true_implies, false_implies, not_false_eq_true, not_true_eq_false, forall_eq, implies_true]
        refine c_word hL hC hTC hn.1 ?_
        refine c_memberNamed1 hG hC hs (by omega) k1 law.2.1 hr m1 m2 m3 (brF (mI1 (by omega)) ?_)
        simp (disch := omega) only [mI_c, mR_c, mJ_c, sI_c, sJ_c, sR_c, hL.1, hL.2.1, hL.2.2, hC.1, hC.2.1, hC.2.2.1, h72, g2c, hK.2.1, g3, kd2, lT, lF, tT, tF, eF, pF, zT, m1F, vT, cI, true_and, and_true, true_implies, false_implies, not_false_eq_true, not_true_eq_false, forall_eq, implies_true]
        simp (disch := omega) only [forall_eq] at hh
        exact hh
      have preM : ∀ κ1 (Q : Int32 → Mem → Prop), (¬ nI kd = 0 → Q 0 (mg κ1 (flM ρ 3 (pos B z i)))) → (nI kd = 0 → X_X12_advance G (fun s17 => X_X12_needs G (fun w19 s18 => ((w19 = 0 → (bz (0 : Int32) ∧ Q (0 : Int32) s18)) ∧ (¬ w19 = 0 → (((mI s18 1282 51) = (3 : Int32) → gT G (mR s18 1282 22) = 100 ∧ vp_in (nI (4 * (13 + c) + hc c)) (gL G (mR s18 1282 22)) ∧ gT G (mR s18 1282 7) = 100 ∧ vp_in (nI (13 + c)) (gL G (mR s18 1282 7)) ∧ X_X12_advance G (fun s26 => X_X12_needs G (fun w28 s27 => (bz w28 ∧ Q w28 s27)) 1282 (59 : Int32) s26) 1282 (sI (sI s18 (mR s18 1282 22) (4 * (13 + c) + hc c) (mI s18 1282 53)) (mR s18 1282 7) (13 + c) (mI s18 (mR s18 1282 7) (13 + c) + 1))) ∧ (¬ (mI s18 1282 51) = (3 : Int32) → X_X12_wrong G (fun w30 s29 => (bz w30 ∧ Q w30 s29)) 1282 s18))))) 1282 (43 : Int32) s17) 1282 (mg κ1 (sI (sI ρ 1301 (4 * (13 + c) + hc c) (nI w)) 1302 (4 * (13 + c) + hc c) (nI m)))) → X_X12_readHook_42 G Q 1282 (nI (13 + c)) (nI (16 + w)) (mg κ1 ρp) := fun κ1 Q h0 hh => by
        refine ⟨hM.1, ra κ1 _ (m_isName1 hM hTM hn (br1 ?_))⟩
        rw [mJ_m (by decide), e52]
        refine m_memberNamed1 hM hm (by omega) k2 law.2.1 m1 ((hwd m m1).mp m2) (fun j hj e => m3 j hj ((hwd j (by omega)).mpr e)) (brF (pI (by omega)) ?_)
        have n16 : (16 : Int32) = nI 16 := rfl
        have n4 : (4 : Int32) = nI 4 := rfl
        simp (disch := omega) only [mI_m, mR_m, mJ_m, sI_m, sJ_m, hM.1, hM.2, hm.1, hm.2, k4, kd3, n16, n4, pk_mul, nI_add, pk_sub, lT, lF, tT, tF, eF, pF, zT, m1F, vT, cI, true_and, and_true, true_implies, false_implies, not_false_eq_true, not_true_eq_false, forall_eq, implies_true, I_is, I_cl, I_sl, J_is, J_cl, J_sl, R_is, R_cl, R_sl, mI_sJ, mI_sR, mJ_sI, mJ_sR, mR_sI, mR_sJ]
        rw [show 16 + w - 16 = w by omega]
        exact ⟨hh, fun e => ⟨hM.1, m_fails hM hTM ⟨bz0, h0 e⟩⟩⟩
      by_cases hkd : kd = 0
      · have hkz : nI kd = 0 := by rw [hkd]; rfl
        obtain ⟨ρw, eρ⟩ : ∃ ρw, ρw = sI (sI ρ 1301 (4 * (13 + c) + hc c) (nI w)) 1302 (4 * (13 + c) + hc c) (nI m) := ⟨_, rfl⟩
        have hPw : PS κ0 ρ0 sd B z T κ ρw i := by
          subst eρ
          refine hP.fr hC ((hm.wI _ _ _).wI _ _ _) Eqv.rf ((Eqv.wI ?_ _).sI ?_ _)
          all_goals exact fun h => h (Or.inr (by unfold upM; omega))
        obtain ⟨⟨-, hmw⟩, ⟨-, hTMw⟩, -⟩ := id hPw
        obtain ⟨ρ2, r2, s2, e2, t2⟩ := m_adv hM hmw hTC hTMw hi
        have hP2 := hPw.ps hi s2 e2 t2
        obtain ⟨⟨hC2, hm2⟩, ⟨hTC2, hTM2⟩, -⟩ := id hP2
        have i70 : ∀ {κ ρ1 : Mem}, StC κ → mR (mg κ ρ1) 7 0 = 3 := fun h => (mR_c (by decide) _).trans h.1.2.2.2.2.2.2.2.2.2.2.2.2.2.1
        have g9 : gT G 3 = 9 := hL.1.2.2.2.1
        by_cases ap : sgA B z (pos B z (i + 1)) 43
        · have hi1 : i + 1 < T := hTC2.lt (by rw [ap.1]; decide)
          obtain ⟨ρ3, r3, s3, e3, t3⟩ := m_adv hM hm2 hTC2 hTM2 hi1
          have hP3 := hP2.ps hi1 s3 e3 t3
          obtain ⟨⟨hC3, hm3⟩, ⟨hTC3, hTM3⟩, -⟩ := id hP3
          by_cases an : tkd B z (pos B z (i + 2)) = 3
          · have hi2 : i + 2 < T := hTC3.lt (by rw [an]; decide)
            obtain ⟨nb, enb⟩ : ∃ nb, nb = nI (cd B (pos B z (i + 2)) (eTk B z (pos B z (i + 2)) - pos B z (i + 2))) := ⟨_, rfl⟩
            obtain ⟨κu, eku⟩ : ∃ κu, κu = psC (psC κ i) (i + 1) := ⟨_, rfl⟩
            have eku' : psC (psC κ i) (i + 1) = κu := eku.symm
            rw [eku'] at hP3 hC3 hTC3
            obtain ⟨κv, ekv⟩ : ∃ κv, κv = sI (sI (sI (sI κu (sd + 6 + 5 * c) (hc c) (nI o)) (sd + 7 + 5 * c) (hc c) (nI m)) (sd + 8 + 5 * c) (hc c) nb) (sd + 4 + 5 * c) 6 (nI (hc c + 1)) := ⟨_, rfl⟩
            obtain ⟨ρv, erv⟩ : ∃ ρv, ρv = sI (sI ρ3 1303 (4 * (13 + c) + hc c) nb) 1288 (13 + c) (nI (hc c + 1)) := ⟨_, rfl⟩
            have hPv : PS κ0 ρ0 sd B z T κv ρv (i + 2) := by
              subst ekv erv
              refine hP3.fr ((((hC3.wI _ _ _).wI _ _ _).wI _ _ _).wI _ _ _) ((hm3.wI _ _ _).wI _ _ _) ((((Eqv.wI ?_ _).sI ?_ _).sI ?_ _).sI ?_ _) ((Eqv.wI ?_ _).sI ?_ _)
              · exact fun h => h (by omega)
              · exact fun h => h (by omega)
              · exact fun h => h (by omega)
              · exact fun h => h (by omega)
              · exact fun h => h (Or.inr (by unfold upM; omega))
              · exact fun h => h (Or.inr (by unfold upM; omega))
            obtain ⟨⟨hCv, hmv⟩, ⟨hTCv, hTMv⟩, -⟩ := id hPv
            obtain ⟨ρ4, r4, s4, e4, t4⟩ := m_adv hM hmv hTCv hTMv hi2
            have hP4 := hPv.ps hi2 s4 e4 t4
            obtain ⟨⟨hC4, hm4⟩, ⟨hTC4, hTM4⟩, -⟩ := id hP4
            have ku6 : mI κu (sd + 4 + 5 * c) 6 = nI (hc c) := by subst eku; simp (disch := omega) only [I_is, I_cl, I_sl, J_is, J_cl, J_sl, R_is, R_cl, R_sl, mI_sJ, mI_sR, mJ_sI, mJ_sR, mR_sI, mR_sJ]; exact k3
            have ku72 : mR κu 7 2 = sd + 4 + 5 * c := by subst eku; exact h72
            have r88 : mI ρ3 1288 (13 + c) = nI (hc c) := by
              rw [e3.I (by unfold avM; omega), e2.I (by unfold avM; omega)]; subst eρ; simp (disch := omega) only [I_is, I_cl, I_sl, J_is, J_cl, J_sl, R_is, R_cl, R_sl, mI_sJ, mI_sR, mJ_sI, mJ_sR, mR_sI, mR_sJ]; exact k4
            have nar : vp_nar .boolean (nI o) = nI o := by
              rcases how with ⟨rfl, -⟩ | ⟨rfl, -⟩
              · exact narb1
              · exact narb0
            have goC : ∀ ρ1 (Q : Int32 → Mem → Prop), X_X8_expects G (fun w44 s43 => (bz w44 ∧ Q w44 s43)) 3 (59 : Int64) (mg (psC κv (i + 2)) ρ1) → X_X0_readHook_57 G Q 7 (nI o) (mg κ ρ1) := fun ρ1 Q hh => by
              refine pre ρ1 Q ⟨fun _ => c_pass hL hC hTC hi ?_, fun e => absurd hkz e⟩
              rw [i70 hC2]
              refine ⟨g9, c_expects1 hL hC2 hTC2 (aS ap (by decide) rfl) (br1 ?_)⟩
              rw [eku', i70 hC3]
              refine ⟨g9, c_isNumber1 hL hC3 hTC3 an (br1 ?_)⟩
              have hK3 := hC3.ss hs
              have hC := hC3
              simp (disch := omega) only [mI_c, mR_c, mJ_c, sI_c, sJ_c, sR_c, hL.1, hL.2.1, hL.2.2, hC.1, hC.2.1, hC.2.2.1, ku72, g2c, hK3.2.1, ku6, nar, lT, lF, tT, tF, eF, pF, zT, m1F, vT, cI, true_and, and_true, true_implies, false_implies, not_false_eq_true, not_true_eq_false, forall_eq, implies_true, I_is, I_cl, I_sl, J_is, J_cl, J_sl, R_is, R_cl, R_sl, mI_sJ, mI_sR, mJ_sI, mJ_sR, mR_sI, mR_sJ]
              have hT6 : TC (sI (sI κu (sd + 6 + 5 * c) (hc c) (nI o)) (sd + 7 + 5 * c) (hc c) (nI m)) B z T (i + 2) := ⟨hTC3.1.fr (by simp (disch := omega) only [I_is, I_cl, I_sl, J_is, J_cl, J_sl, R_is, R_cl, R_sl, mI_sJ, mI_sR, mJ_sI, mJ_sR, mR_sI, mR_sJ]) (fun a k a1 a2 => ⟨by simp (disch := omega) only [I_is, I_cl, I_sl, J_is, J_cl, J_sl, R_is, R_cl, R_sl, mI_sJ, mI_sR, mJ_sI, mJ_sR, mR_sI, mR_sJ], rfl⟩), by simp (disch := omega) only [I_is, I_cl, I_sl, J_is, J_cl, J_sl, R_is, R_cl, R_sl, mI_sJ, mI_sR, mJ_sI, mJ_sR, mR_sI, mR_sJ]; exact hTC3.2.1, hTC3.2.2⟩
              refine c_number hL ((hC3.wI _ _ _).wI _ _ _) hT6 an ?_
              rw [← enb]
              simp (disch := omega) only [mI_c, mR_c, mJ_c, sI_c, sJ_c, sR_c, hL.1, hL.2.1, hL.2.2, hC.1, hC.2.1, hC.2.2.1, ku72, g2c, hK3.2.1, ku6, nI_1, lT, lF, tT, tF, eF, pF, zT, m1F, vT, cI, true_and, and_true, true_implies, false_implies, not_false_eq_true, not_true_eq_false, forall_eq, implies_true, I_is, I_cl, I_sl, J_is, J_cl, J_sl, R_is, R_cl, R_sl, mI_sJ, mI_sR, mJ_sI, mJ_sR, mR_sI, mR_sJ]
              rw [← ekv]
              refine c_pass hL hCv hTCv hi2 ?_
              rw [i70 hC4]
              exact ⟨g9, hh⟩
            have goM : ∀ κ1 (Q : Int32 → Mem → Prop), X_X12_needs G (fun w28 s27 => (bz w28 ∧ Q w28 s27)) 1282 (59 : Int32) (mg κ1 ρ4) → X_X12_readHook_42 G Q 1282 (nI (13 + c)) (nI (16 + w)) (mg κ1 ρp) := fun κ1 Q hh => by
              refine preM κ1 Q (fun e => absurd hkz e) (fun _ => ?_)
              rw [← eρ]
              refine r2 κ1 _ (m_needs1 (s := 43) hM hTM2 ap r3 (br1 ?_))
              rw [mI_m (by decide), hTM3.2.2.2.1]
              refine brT (by rw [an]; rfl) ?_
              have hm := hm3
              simp (disch := omega) only [mI_m, mR_m, mJ_m, sI_m, sJ_m, hM.1, hM.2, hm.1, hm.2, lT, lF, tT, tF, eF, pF, zT, m1F, vT, cI, true_and, and_true, true_implies, false_implies, not_false_eq_true, not_true_eq_false, forall_eq, implies_true, I_is, I_cl, I_sl, J_is, J_cl, J_sl, R_is, R_cl, R_sl, mI_sJ, mI_sR, mJ_sI, mJ_sR, mR_sI, mR_sJ, r88, nI_1, hTM3.2.2.2.2.2.1 an]
              rw [← enb, ← erv]
              exact r4 κ1 _ hh
            by_cases as : sgA B z (pos B z (i + 3)) 59
            · have hi3 : i + 3 < T := hTC4.lt (by rw [as.1]; decide)
              obtain ⟨ρ5, r5, s5, e5, t5⟩ := m_adv hM hm4 hTC4 hTM4 hi3
              have hP5 := hP4.ps hi3 s5 e5 t5
              refine Jo.good (fun ρ1 Q hQ => goC ρ1 Q (c_expects1 hL hC4 hTC4 (aS as (by decide) rfl) ⟨bz1, hQ⟩)) (fun κ1 Q hQ => goM κ1 Q (m_needs1 (s := 59) hM hTM4 as r5 ⟨bz1, hQ⟩)) ⟨i + 4, by omega, hP5, ?_, ?_⟩
              · refine hR.addH hs ?_ ?_ ?_ ?_ h4 ?_
                · subst ekv eku
                  refine (((((((Eqv.wI ?_ _).sI ?_ _).sI ?_ _).sI ?_ _).sI ?_ _).sI ?_ _).sI ?_ _).sI ?_ _
                  all_goals exact fun h => h (by omega)
                · refine Eqv.tr (Eqv.tr (Eqv.tr (Eqv.tr (Eqv.tr ?_ (e2.mo ?_)) (e3.mo ?_)) ?_) (e4.mo ?_)) (e5.mo ?_)
                  · subst eρ
                    refine (Eqv.wI ?_ _).sI ?_ _
                    all_goals exact fun h => h (by omega)
                  · intro a q hh; unfold hfM at hh; unfold avM; omega
                  · intro a q hh; unfold hfM at hh; unfold avM; omega
                  · subst erv
                    refine (Eqv.wI ?_ _).sI ?_ _
                    all_goals exact fun h => h (by omega)
                  · intro a q hh; unfold hfM at hh; unfold avM; omega
                  · intro a q hh; unfold hfM at hh; unfold avM; omega
                · subst ekv; simp (disch := omega) only [I_is, I_cl, I_sl, J_is, J_cl, J_sl, R_is, R_cl, R_sl, mI_sJ, mI_sR, mJ_sI, mJ_sR, mR_sI, mR_sJ]
                · rw [e5.I (by unfold avM; omega), e4.I (by unfold avM; omega)]; subst erv; simp (disch := omega) only [I_is, I_cl, I_sl, J_is, J_cl, J_sl, R_is, R_cl, R_sl, mI_sJ, mI_sR, mJ_sI, mJ_sR, mR_sI, mR_sJ]
                · have r1 : ∀ a q, 1288 < a → mI ρ5 a q = mI ρv a q := fun a q hh => by rw [e5.I (by unfold avM; omega), e4.I (by unfold avM; omega)]
                  have r2' : ∀ a q, 1288 < a → mI ρ3 a q = mI ρw a q := fun a q hh => by rw [e3.I (by unfold avM; omega), e2.I (by unfold avM; omega)]
                  refine ⟨?_, ⟨m, m1, ?_, ?_, ?_⟩, ?_⟩
                  · rw [r1 _ _ (by decide)]; subst erv; simp (disch := omega) only [I_is, I_cl, I_sl, J_is, J_cl, J_sl, R_is, R_cl, R_sl, mI_sJ, mI_sR, mJ_sI, mJ_sR, mR_sI, mR_sJ]
                    rw [r2' _ _ (by decide)]; subst eρ ekv; simp (disch := omega) only [I_is, I_cl, I_sl, J_is, J_cl, J_sl, R_is, R_cl, R_sl, mI_sJ, mI_sR, mJ_sI, mJ_sR, mR_sI, mR_sJ]
                    rcases how with ⟨rfl, rfl⟩ | ⟨rfl, rfl⟩
                    · exact Or.inl ⟨rfl, rfl⟩
                    · exact Or.inr ⟨rfl, rfl⟩
                  · subst ekv; simp (disch := omega) only [I_is, I_cl, I_sl, J_is, J_cl, J_sl, R_is, R_cl, R_sl, mI_sJ, mI_sR, mJ_sI, mJ_sR, mR_sI, mR_sJ]
                  · rw [r1 _ _ (by decide)]; subst erv; simp (disch := omega) only [I_is, I_cl, I_sl, J_is, J_cl, J_sl, R_is, R_cl, R_sl, mI_sJ, mI_sR, mJ_sI, mJ_sR, mR_sI, mR_sJ]
                    rw [r2' _ _ (by decide)]; subst eρ; simp (disch := omega) only [I_is, I_cl, I_sl, J_is, J_cl, J_sl, R_is, R_cl, R_sl, mI_sJ, mI_sR, mJ_sI, mJ_sR, mR_sI, mR_sJ]
                  · rw [r1 _ _ (by decide)]; subst erv; simp (disch := omega) only [I_is, I_cl, I_sl, J_is, J_cl, J_sl, R_is, R_cl, R_sl, mI_sJ, mI_sR, mJ_sI, mJ_sR, mR_sI, mR_sJ]
                    rw [r2' _ _ (by decide)]; subst eρ; simp (disch := omega) only [I_is, I_cl, I_sl, J_is, J_cl, J_sl, R_is, R_cl, R_sl, mI_sJ, mI_sR, mJ_sI, mJ_sR, mR_sI, mR_sJ]
                    rw [kd3]; exact hkz
                  · rw [r1 _ _ (by decide)]; subst erv ekv; simp (disch := omega) only [I_is, I_cl, I_sl, J_is, J_cl, J_sl, R_is, R_cl, R_sl, mI_sJ, mI_sR, mJ_sI, mJ_sR, mR_sI, mR_sJ]
              · subst ekv eku; rfl
            · exact Jo.fail (fun ρ1 Q hQ => goC ρ1 Q (c_expects0 hL hC4 hTC4 (nS as (by decide) rfl) ⟨bz0, hQ⟩)) (fun κ1 Q hQ => goM κ1 Q (m_needs0 (s := 59) hM hTM4 (by decide) as ⟨bz0, hQ⟩)) (hP4.fail (flt B z (pos B z (i + 3))) (p := pos B z (i + 3)))
          · refine Jo.fail (fun ρ1 Q hQ => ?_) (fun κ1 Q hQ => ?_) (hP3.fail (flt B z (pos B z (i + 2))) (p := pos B z (i + 2)))
            · refine pre ρ1 Q ⟨fun _ => c_pass hL hC hTC hi ?_, fun e => absurd hkz e⟩
              rw [i70 hC2]
              refine ⟨g9, c_expects1 hL hC2 hTC2 (aS ap (by decide) rfl) (br1 ?_)⟩
              rw [i70 hC3]
              refine ⟨g9, c_isNumber0 hL hC3 hTC3 an (br0 ?_)⟩
              rw [i70 hC3]
              exact ⟨g9, c_misplaced hL hC3 hTC3 ⟨bz0, hQ⟩⟩
            · refine preM κ1 Q (fun e => absurd hkz e) (fun _ => ?_)
              rw [← eρ]
              refine r2 κ1 _ (m_needs1 (s := 43) hM hTM2 ap r3 (br1 ?_))
              rw [mI_m (by decide), hTM3.2.2.2.1]
              refine brF (fun e => an ((eI (by rcases tk_any (B := B) (z := z) (p := pos B z (i + 2)) with e | e | e | e | e <;> omega) (by decide)).mp e)) ?_
              exact m_wrong hM hTM3 ⟨bz0, hQ⟩
        · refine Jo.fail (fun ρ1 Q hQ => ?_) (fun κ1 Q hQ => ?_) (hP2.fail (flt B z (pos B z (i + 1))) (p := pos B z (i + 1)))
          · refine pre ρ1 Q ⟨fun _ => c_pass hL hC hTC hi ?_, fun e => absurd hkz e⟩
            rw [i70 hC2]
            exact ⟨g9, c_expects0 hL hC2 hTC2 (nS ap (by decide) rfl) (br0 ⟨bz0, hQ⟩)⟩
          · refine preM κ1 Q (fun e => absurd hkz e) (fun _ => ?_)
            rw [← eρ]
            exact r2 κ1 _ (m_needs0 (s := 43) hM hTM2 (by decide) ap (br0 ⟨bz0, hQ⟩))
      · have hkn : ¬ nI kd = 0 := fun e => hkd ((eI (b := 0) (by omega) (by decide)).mp e)
        refine Jo.fail (fun ρ1 Q hQ => pre ρ1 Q ⟨fun e => absurd e hkn, fun _ => ?_⟩) (fun κ1 Q hQ => preM κ1 Q (fun _ => hQ) (fun e => absurd e hkn)) (hP.fail 3 (p := pos B z i))
        simp (disch := omega) only [X_X0_readHook_110, mI_c, mR_c, mJ_c, sI_c, sJ_c, sR_c, hL.1, hL.2.1, hL.2.2, hC.1, hC.2.1, hC.2.2.1, lT, lF, tT, tF, eF, pF, zT, m1F, vT, cI, true_and, and_true, true_implies, false_implies, not_false_eq_true, not_true_eq_false, forall_eq, implies_true]
        exact c_refuse hL hC hTC ⟨bz0, hQ⟩
    · have hd : ∀ m, m < mc c → mJ κ (mR κ (sd + 5 + 5 * c) m) 0 ≠ wdx B z (pos B z i) := fun m hm e => hd ⟨m, hm, e⟩
      refine Jo.fail (fun ρ1 Q hQ => ?_) (fun κ1 Q hQ => ?_) (hP.fail 3 (p := pos B z i))
      · simp (disch := omega) only [X_X0_readHook_57, mI_c, mR_c, mJ_c, sI_c, sJ_c, sR_c, hL.1, hL.2.1, hL.2.2, hC.1, hC.2.1, hC.2.2.1, lT, lF, tT, tF, eF, pF, zT, m1F, vT, cI, true_and, and_true, true_implies, false_implies, not_false_eq_true, not_true_eq_false, forall_eq, implies_true]
        refine c_isName1 hL hC hTC hn (br1 ?_)
        simp (disch := omega) only [mI_c, mR_c, mJ_c, sI_c, sJ_c, sR_c, hL.1, hL.2.1, hL.2.2, hC.1, hC.2.1, hC.2.2.1, h72, g2c, lT, lF, tT, tF, eF, pF, zT, m1F, vT, cI, true_and, and_true, true_implies, false_implies, not_false_eq_true, not_true_eq_false, forall_eq, implies_true]
        refine c_word hL hC hTC hn.1 ?_
        refine c_memberNamed0 hG hC hs (by omega) k1 law.2.1 hr hd (brT rfl ?_)
        simp (disch := omega) only [X_X0_readHook_110, mI_c, mR_c, mJ_c, sI_c, sJ_c, sR_c, hL.1, hL.2.1, hL.2.2, hC.1, hC.2.1, hC.2.2.1, lT, lF, tT, tF, eF, pF, zT, m1F, vT, cI, true_and, and_true, true_implies, false_implies, not_false_eq_true, not_true_eq_false, forall_eq, implies_true]
        exact c_refuse hL hC hTC ⟨bz0, hQ⟩
      · refine ⟨hM.1, ra κ1 _ (m_isName1 hM hTM hn (br1 ?_))⟩
        rw [mJ_m (by decide), e52]
        exact m_memberNamed0 hM hm (by omega) k2 law.2.1 (fun j hj e => hd j hj ((hwd j hj).mpr e)) (brT m1_neg ⟨hM.1, m_fails hM hTM ⟨bz0, hQ⟩⟩)
  · refine Jo.fail (fun ρ1 Q hQ => ?_) (fun κ1 Q hQ => ⟨hM.1, ra κ1 _ (m_isName0 hM hTM hn (br0 (m_wrong hM hTM ⟨bz0, hQ⟩)))⟩) (hP.fail (flt B z (pos B z i)) (p := pos B z i))
    simp (disch := omega) only [X_X0_readHook_57, mI_c, mR_c, mJ_c, sI_c, sJ_c, sR_c, hL.1, hL.2.1, hL.2.2, hC.1, hC.2.1, hC.2.2.1, lT, lF, tT, tF, eF, pF, zT, m1F, vT, cI, true_and, and_true, true_implies, false_implies, not_false_eq_true, not_true_eq_false, forall_eq, implies_true]
    refine c_isName0 hL hC hTC hn (br0 ?_)
    simp (disch := omega) only [mI_c, mR_c, mJ_c, sI_c, sJ_c, sR_c, hL.1, hL.2.1, hL.2.2, hC.1, hC.2.1, hC.2.2.1, lT, lF, tT, tF, eF, pF, zT, m1F, vT, cI, true_and, and_true, true_implies, false_implies, not_false_eq_true, not_true_eq_false, forall_eq, implies_true]
    exact c_misplaced hL hC hTC ⟨bz0, hQ⟩
theorem j_hook (hG : Ly G) (hP : PS κ0 ρ0 sd B z T κ ρ i) (hR : DRf sd (c + 1) nw mc rt hc ow tb κ ρ) (h72 : mR κ 7 2 = sd + 4 + 5 * c) (hi : i < T) : Jo κ0 ρ0 sd (fun Q σ => X_X0_readHook G Q 7 σ) (fun Q σ => X_X12_readHook G Q 1282 (nI (13 + c)) σ) (HPost κ0 ρ0 sd B z T κ i c nw mc rt hc ow tb) κ ρ := by
  have hL := hG.1
  have hM := hG.2.2.2
  obtain ⟨⟨hC, hm⟩, ⟨hTC, hTM⟩, -, h71, hs⟩ := id hP
  obtain ⟨hB, hN, ⟨q1, q2, q3⟩, q4, q5⟩ := id hR
  have hz := hTC.zz
  have h12 := hB.2.2.1
  have law := hB.2.1.2 c (by omega)
  have hT := hG.s hs
  obtain ⟨⟨k1, k2⟩, k3, k4⟩ := hN c (by omega)
  have g2c := hT.2.1 c (by omega)
  have n4 : (4 : Int32) = nI 4 := rfl
  by_cases hf : hc c = 4
  · refine Jo.fail (fun ρ1 Q hQ => ?_) (fun κ1 Q hQ => ?_) (hP.fail 4 (p := pos B z i))
    · simp (disch := omega) only [X_X0_readHook, X_X0_readHook_0, mI_c, mR_c, mJ_c, sI_c, sJ_c, sR_c, hL.1, hL.2.1, hL.2.2, hC.1, hC.2.1, hC.2.2.1, h72, g2c, k3, n4, lT, lF, tT, tF, eF, pF, zT, m1F, vT, cI, true_and, and_true, true_implies, false_implies, not_false_eq_true, not_true_eq_false, forall_eq, implies_true]
      exact c_refuse hL hC hTC ⟨bz0, hQ⟩
    · have e : (nI (hc c) = nI 4) = True := eq_true (by rw [hf])
      simp (disch := omega) only [X_X12_readHook, X_X12_readHook_0, mI_m, mR_m, mJ_m, sI_m, sJ_m, hM.1, hM.2, hm.1, hm.2, k4, n4, e, lT, lF, tT, tF, eF, pF, zT, m1F, vT, cI, true_and, and_true, true_implies, false_implies, not_false_eq_true, not_true_eq_false, forall_eq, implies_true]
      exact m_fails hM hTM ⟨bz0, hQ⟩
  · obtain ⟨ρ2, r2, s2, e2, t2⟩ := m_adv hM hm hTC hTM hi
    have hP2 := hP.ps hi s2 e2 t2
    obtain ⟨⟨hC2, hm2⟩, ⟨hTC2, hTM2⟩, -⟩ := id hP2
    have hR2 : DRf sd (c + 1) nw mc rt hc ow tb (psC κ i) ρ2 := hR.av hs e2
    have goC : ∀ ρ1 (Q : Int32 → Mem → Prop), X_X8_takes G (fun w7 s6 => ((w7 = 0 → gT G (mR s6 7 0) = 9 ∧ X_X8_expects G (fun w10 s9 => ((w10 = 0 → (bz (0 : Int32) ∧ Q (0 : Int32) s9)) ∧ (¬ w10 = 0 → X_X0_readHook_57 G Q 7 w7 s9))) (mR s6 7 0) (109299962373989 : Int64) s6) ∧ (¬ w7 = 0 → X_X0_readHook_57 G Q 7 w7 s6))) 3 (115923103347316 : Int64) (mg (psC κ i) ρ1) → X_X0_readHook G Q 7 (mg κ ρ1) := fun ρ1 Q hh => by
      simp (disch := omega) only [X_X0_readHook, X_X0_readHook_0, mI_c, mR_c, mJ_c, sI_c, sJ_c, sR_c, hL.1, hL.2.1, hL.2.2, hC.1, hC.2.1, hC.2.2.1, h72, g2c, k3, n4, lT, lF, tT, tF, eF, pF, zT, m1F, vT, cI, true_and, and_true, true_implies, false_implies, not_false_eq_true, not_true_eq_false, forall_eq, implies_true]
      refine c_pass hL hC hTC hi ?_
      have hC := hC2
      simp (disch := omega) only [mI_c, mR_c, mJ_c, sI_c, sJ_c, sR_c, hL.1, hL.2.1, hL.2.2, hC.1, hC.2.1, hC.2.2.1, lT, lF, tT, tF, eF, pF, zT, m1F, vT, cI, true_and, and_true, true_implies, false_implies, not_false_eq_true, not_true_eq_false, forall_eq, implies_true]
      exact hh
    have goM : ∀ κ1 (Q : Int32 → Mem → Prop), (((twd B z (pos B z (i + 1))) = (16 : Int32) → X_X12_readHook_42 G Q 1282 (nI (13 + c)) (twd B z (pos B z (i + 1))) (mg κ1 ρ2)) ∧ (¬ (twd B z (pos B z (i + 1))) = (16 : Int32) → (((twd B z (pos B z (i + 1))) = (17 : Int32) → X_X12_readHook_42 G Q 1282 (nI (13 + c)) (twd B z (pos B z (i + 1))) (mg κ1 ρ2)) ∧ (¬ (twd B z (pos B z (i + 1))) = (17 : Int32) → X_X12_wrong G (fun w8 s7 => (bz w8 ∧ Q w8 s7)) 1282 (mg κ1 ρ2))))) → X_X12_readHook G Q 1282 (nI (13 + c)) (mg κ1 ρ) := fun κ1 Q hh => by
      simp (disch := omega) only [X_X12_readHook, X_X12_readHook_0, mI_m, mR_m, mJ_m, sI_m, sJ_m, hM.1, hM.2, hm.1, hm.2, k4, n4, lT, lF, tT, tF, eF, pF, zT, m1F, vT, cI, true_and, and_true, true_implies, false_implies, not_false_eq_true, not_true_eq_false, forall_eq, implies_true]
      exact r2 κ1 _ (m_toldWord hM hTM2 hh)
    by_cases a1 : twd B z (pos B z (i + 1)) = nI 16
    · have hi1 : i + 1 < T := hTC2.lt (by rw [((twd_k (by omega)).mp a1).1]; decide)
      obtain ⟨ρ3, r3, s3, e3, t3⟩ := m_adv hM hm2 hTC2 hTM2 hi1
      have hP3 := hP2.ps hi1 s3 e3 t3
      refine Jo.stp (fun ρ1 Q hq => goC ρ1 Q (c_takes1 hL hC2 hTC2 (aK a1 (by decide) rfl) (br1 hq))) (fun κ1 Q hq => goM κ1 Q (brT a1 (by rw [a1]; exact hq))) (?_ : Jo κ0 ρ0 sd (fun Q σ => X_X0_readHook_57 G Q 7 (nI 1) σ) (fun Q σ => X_X12_readHook_42 G Q 1282 (nI (13 + c)) (nI (16 + 0)) σ) (HPost κ0 ρ0 sd B z T κ i c nw mc rt hc ow tb) (psC (psC κ i) (i + 1)) ρ2)
      exact j_hook2 hG hP3 r3 (hR2.av hs e3) h72 (by omega) (by omega) (Or.inl ⟨rfl, rfl⟩)
    · by_cases a2 : twd B z (pos B z (i + 1)) = nI 17
      · have hi1 : i + 1 < T := hTC2.lt (by rw [((twd_k (by omega)).mp a2).1]; decide)
        obtain ⟨ρ3, r3, s3, e3, t3⟩ := m_adv hM hm2 hTC2 hTM2 hi1
        have hP3 := hP2.ps hi1 s3 e3 t3
        refine Jo.stp (fun ρ1 Q hq => goC ρ1 Q (c_takes0 hL hC2 hTC2 (nK a1 (by decide) rfl) (br0 ?_))) (fun κ1 Q hq => goM κ1 Q (brF a1 (brT a2 (by rw [a2]; exact hq)))) (?_ : Jo κ0 ρ0 sd (fun Q σ => X_X0_readHook_57 G Q 7 (nI 0) σ) (fun Q σ => X_X12_readHook_42 G Q 1282 (nI (13 + c)) (nI (16 + 1)) σ) (HPost κ0 ρ0 sd B z T κ i c nw mc rt hc ow tb) (psC (psC κ i) (i + 1)) ρ2)
        · have hC := hC2
          simp (disch := omega) only [mI_c, mR_c, mJ_c, sI_c, sJ_c, sR_c, hL.1, hL.2.1, hL.2.2, hC.1, hC.2.1, hC.2.2.1, lT, lF, tT, tF, eF, pF, zT, m1F, vT, cI, true_and, and_true, true_implies, false_implies, not_false_eq_true, not_true_eq_false, forall_eq, implies_true]
          exact c_expects1 hL hC2 hTC2 (aK a2 (by decide) rfl) (br1 hq)
        · exact j_hook2 hG hP3 r3 (hR2.av hs e3) h72 (by omega) (by omega) (Or.inr ⟨rfl, rfl⟩)
      · refine Jo.fail (fun ρ1 Q hQ => goC ρ1 Q (c_takes0 hL hC2 hTC2 (nK a1 (by decide) rfl) (br0 ?_))) (fun κ1 Q hQ => goM κ1 Q (brF a1 (brF a2 (m_wrong hM hTM2 ⟨bz0, hQ⟩)))) (hP2.fail (flt B z (pos B z (i + 1))) (p := pos B z (i + 1)))
        have hC := hC2
        simp (disch := omega) only [mI_c, mR_c, mJ_c, sI_c, sJ_c, sR_c, hL.1, hL.2.1, hL.2.2, hC.1, hC.2.1, hC.2.2.1, lT, lF, tT, tF, eF, pF, zT, m1F, vT, cI, true_and, and_true, true_implies, false_implies, not_false_eq_true, not_true_eq_false, forall_eq, implies_true]
        exact c_expects0 hL hC2 hTC2 (nK a2 (by decide) rfl) (br0 ⟨bz0, hQ⟩)
end RDH
