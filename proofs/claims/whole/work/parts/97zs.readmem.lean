/-! readMember, readHook, side by side -/
section RDM
variable {G : Lay} {κ0 ρ0 κ κ' ρ ρ' : Mem} {sd z T i c nw n : Nat} {B : Nat → Nat} {mc rt hc ow tb : Nat → Nat}
theorem StC.wS {κ : Mem} (h : StC κ) {sd c k v : Nat} (hs : sd = 14 ∨ sd = 275) (hc : c < 12) : StC (sR κ (sd + 5 + 5 * c) k v) := by
  refine h.wR ?_
  rcases hs with rfl | rfl
  · exact Or.inr (Or.inr (Or.inr (Or.inr (Or.inr (Or.inr (Or.inl ⟨c, hc, by omega⟩))))))
  · exact Or.inr (Or.inr (Or.inr (Or.inr (Or.inr (Or.inr (Or.inr ⟨c, hc, by omega⟩))))))
theorem j_rdMember (hG : Ly G) (hP : PS κ0 ρ0 sd B z T κ ρ i) (hR : DRf sd (c + 1) nw mc rt hc ow tb κ ρ) (h72 : mR κ 7 2 = sd + 4 + 5 * c) (h2 : 2 * nw ≤ i) : Jo κ0 ρ0 sd (fun Q σ => X_X0_readMember G Q 7 σ) (fun Q σ => X_X12_readMember G Q 1282 (nI (13 + c)) σ) (MPost κ0 ρ0 sd B z T κ i c mc rt hc ow tb) κ ρ := by
  have hL := hG.1
  have hM := hG.2.2.2
  obtain ⟨⟨hC, hm⟩, ⟨hTC, hTM⟩, -, h71, hs⟩ := id hP
  obtain ⟨hB, hN, ⟨q1, q2, q3⟩, q4, q5⟩ := id hR
  have hz := hTC.zz
  have h12 := hB.2.2.1
  have law := hB.2.1.2 c (by omega)
  have le16 := hB.2.1.le (c + 1) (Nat.le_refl _)
  have ltt16 : mc c < 16 → tb (c + 1) < 192 := fun h => by
    have := hB.2.1.le c (by omega)
    omega
  have hT := hG.s hs
  have hK := hC.ss hs
  obtain ⟨⟨k1, k2⟩, k3, k4⟩ := hN c (by omega)
  have hr : ∀ j, j < mc c → sd + 64 ≤ mR κ (sd + 5 + 5 * c) j ∧ mR κ (sd + 5 + 5 * c) j < sd + 256 := fun j hj => by
    have := (hB.mem (show c < c + 1 by omega) hj).1; omega
  have g2c : gT G (sd + 4 + 5 * c) = 2 := (hT.2.1 c (by omega)).1
  by_cases hn : nmT B z (pos B z i)
  · have hi : i < T := hTC.lt (by rw [hn.1]; decide)
    have hw := wd_rel hTM.lo hn.1
    have hwd : ∀ m, m < mc c → (mJ κ (mR κ (sd + 5 + 5 * c) m) 0 = wdx B z (pos B z i) ↔ mJ ρ 1289 (16 * (13 + c) + m) = wdy B z (pos B z i)) := fun m hm => (hB.mem (show c < c + 1 by omega) hm).2.1.iff hw
    have e52 : mJ ρ 1282 52 = wdy B z (pos B z i) := hTM.2.2.2.2.1 hn.1
    by_cases hd : ∃ m, m < mc c ∧ mJ κ (mR κ (sd + 5 + 5 * c) m) 0 = wdx B z (pos B z i)
    · obtain ⟨m, m1, m2, m3⟩ := fst_lt hd
      refine Jo.fail (fun ρ1 Q hQ => ?_) (fun κ1 Q hQ => ?_) (hP.fail 3 (p := pos B z i))
      · simp (disch := omega) only [X_X0_readMember, X_X0_readMember_0, mI_c, mR_c, mJ_c, sI_c, sJ_c, sR_c, hL.1, hL.2.1, hL.2.2, hC.1, hC.2.1, hC.2.2.1, lT, lF, tT, tF, eF, pF, zT, m1F, vT, cI, true_and, and_true, true_implies, false_implies, not_false_eq_true, not_true_eq_false, forall_eq, implies_true]
        refine c_isName1 hL hC hTC hn (br1 ?_)
        simp (disch := omega) only [mI_c, mR_c, mJ_c, sI_c, sJ_c, sR_c, hL.1, hL.2.1, hL.2.2, hC.1, hC.2.1, hC.2.2.1, h72, g2c, lT, lF, tT, tF, eF, pF, zT, m1F, vT, cI, true_and, and_true, true_implies, false_implies, not_false_eq_true, not_true_eq_false, forall_eq, implies_true]
        refine c_word hL hC hTC hn.1 ?_
        refine c_memberNamed1 hG hC hs (by omega) k1 law.2.1 hr m1 m2 m3 (brF (mI1 (by omega)) ?_)
        simp (disch := omega) only [mI_c, mR_c, mJ_c, sI_c, sJ_c, sR_c, hL.1, hL.2.1, hL.2.2, hC.1, hC.2.1, hC.2.2.1, lT, lF, tT, tF, eF, pF, zT, m1F, vT, cI, true_and, and_true, true_implies, false_implies, not_false_eq_true, not_true_eq_false, forall_eq, implies_true]
        exact c_refuse hL hC hTC ⟨bz0, hQ⟩
      · refine ⟨hM.1, m_isName1 hM hTM hn (br1 ?_)⟩
        rw [mJ_m (by decide), e52]
        refine m_memberNamed1 hM hm (by omega) k2 law.2.1 m1 ((hwd m m1).mp m2) (fun j hj e => m3 j hj ((hwd j (by omega)).mpr e)) (brF (pI (by omega)) ?_)
        exact m_fails hM hTM ⟨bz0, hQ⟩
    · have hd : ∀ m, m < mc c → mJ κ (mR κ (sd + 5 + 5 * c) m) 0 ≠ wdx B z (pos B z i) := fun m hm e => hd ⟨m, hm, e⟩
      by_cases hf : mc c = 16
      · refine Jo.fail (fun ρ1 Q hQ => ?_) (fun κ1 Q hQ => ?_) (hP.fail 4 (p := pos B z i))
        · simp (disch := omega) only [X_X0_readMember, X_X0_readMember_0, mI_c, mR_c, mJ_c, sI_c, sJ_c, sR_c, hL.1, hL.2.1, hL.2.2, hC.1, hC.2.1, hC.2.2.1, lT, lF, tT, tF, eF, pF, zT, m1F, vT, cI, true_and, and_true, true_implies, false_implies, not_false_eq_true, not_true_eq_false, forall_eq, implies_true]
          refine c_isName1 hL hC hTC hn (br1 ?_)
          simp (disch := omega) only [mI_c, mR_c, mJ_c, sI_c, sJ_c, sR_c, hL.1, hL.2.1, hL.2.2, hC.1, hC.2.1, hC.2.2.1, h72, g2c, lT, lF, tT, tF, eF, pF, zT, m1F, vT, cI, true_and, and_true, true_implies, false_implies, not_false_eq_true, not_true_eq_false, forall_eq, implies_true]
          refine c_word hL hC hTC hn.1 ?_
          refine c_memberNamed0 hG hC hs (by omega) k1 law.2.1 hr hd (brT rfl ?_)
          rw [hf] at k1
          have e16 : (nI 16 < (16 : Int32)) = False := eq_false (by decide)
          simp (disch := omega) only [mI_c, mR_c, mJ_c, sI_c, sJ_c, sR_c, hL.1, hL.2.1, hL.2.2, hC.1, hC.2.1, hC.2.2.1, h72, g2c, k1, e16, lT, lF, tT, tF, eF, pF, zT, m1F, vT, cI, true_and, and_true, true_implies, false_implies, not_false_eq_true, not_true_eq_false, forall_eq, implies_true]
          exact c_refuse hL hC hTC ⟨bz0, hQ⟩
        · refine ⟨hM.1, m_isName1 hM hTM hn (br1 ?_)⟩
          rw [mJ_m (by decide), e52]
          refine m_memberNamed0 hM hm (by omega) k2 law.2.1 (fun j hj e => hd j hj ((hwd j hj).mpr e)) (brT m1_neg ?_)
          rw [hf] at k2
          have e16 : (nI 16 = (16 : Int32)) = True := eq_true (by decide)
          simp (disch := omega) only [mI_m, mR_m, mJ_m, sI_m, sJ_m, hM.1, hM.2, hm.1, hm.2, k2, e16, lT, lF, tT, tF, eF, pF, zT, m1F, vT, cI, true_and, and_true, true_implies, false_implies, not_false_eq_true, not_true_eq_false, forall_eq, implies_true]
          exact m_fails hM hTM ⟨bz0, hQ⟩
      · have ltt := ltt16 (by omega)
        obtain ⟨x, ex⟩ : ∃ x, x = sd + 64 + tb (c + 1) := ⟨_, rfl⟩
        obtain ⟨k, ek⟩ : ∃ k, k = 16 * (13 + c) + mc c := ⟨_, rfl⟩
        obtain ⟨κw, eκ⟩ : ∃ κw, κw = sI (sR (sI (sI (sI (sI (sI (sJ (sI κ sd 2 (nI (tb (c + 1) + 1))) x 0 (wdx B z (pos B z i))) x 1 (nI c)) x 3 0) x 5 0) x 8 (-1)) x 11 (-1)) (sd + 5 + 5 * c) (mc c) x) (sd + 4 + 5 * c) 4 (nI (mc c + 1)) := ⟨_, rfl⟩
        obtain ⟨ρw, eρ⟩ : ∃ ρw, ρw = sI (sI (sI (sI (sI (sI (sJ ρ 1289 k (wdy B z (pos B z i))) 1294 k 0) 1293 k 0) 1292 k 0) 1291 k 0) 1295 k 0) 1296 k (nI c) := ⟨_, rfl⟩
        have hCw : StC κw := by subst eκ; exact StC.wI (StC.wS ((((((((hC.wI _ _ _).wJ _ _ _).wI _ _ _).wI _ _ _).wI _ _ _).wI _ _ _).wI _ _ _)) hs (by omega)) _ _ _
        have hmw : StM ρw := by subst eρ; exact ((((((hm.wJ _ _ _).wI _ _ _).wI _ _ _).wI _ _ _).wI _ _ _).wI _ _ _).wI _ _ _
        have fC1 : Eqv (mfC sd c (mc c) x nw) κ κw := by
          subst eκ
          refine Eqv.sI (Eqv.tr (((((((Eqv.wI ?_ _).tr (Eqv.wJ ?_ _)).sI ?_ _).sI ?_ _).sI ?_ _).sI ?_ _).sI ?_ _) (Eqv.wR ?_ _)) ?_ _
          all_goals exact fun h => h (by omega)
        have fM1 : Eqv (mfM k nw) ρ ρw := by
          subst eρ
          refine ((((((Eqv.wJ ?_ _).sI ?_ _).sI ?_ _).sI ?_ _).sI ?_ _).sI ?_ _).sI ?_ _
          all_goals exact fun h => h (by omega)
        have hPw : PS κ0 ρ0 sd B z T κw ρw i := by
          refine hP.fr hCw hmw ?_ ?_
          · subst eκ
            refine Eqv.sI (Eqv.tr (((((((Eqv.wI ?_ _).tr (Eqv.wJ ?_ _)).sI ?_ _).sI ?_ _).sI ?_ _).sI ?_ _).sI ?_ _) (Eqv.wR ?_ _)) ?_ _
            all_goals exact fun h => h (by omega)
          · subst eρ
            refine ((((((Eqv.wJ ?_ _).sI ?_ _).sI ?_ _).sI ?_ _).sI ?_ _).sI ?_ _).sI ?_ _
            all_goals exact fun h => h (Or.inr (by unfold upM; omega))
        have hMw : MbS κ0 ρ0 sd B z T κ ρ c (mc c) (tb (c + 1)) nw x k κw ρw i nw := by
          refine ⟨hPw, ⟨fC1, fM1⟩, ⟨?_, ?_, ?_⟩, ⟨⟨?_, ?_⟩, ?_⟩, ⟨h2, Nat.le_refl _, ?_, ?_⟩, by omega, by omega, ex, ltt, ek⟩
          · subst eκ; simp (disch := omega) only [I_is, I_cl, I_sl, J_is, J_cl, J_sl, R_is, R_cl, R_sl, mI_sJ, mI_sR, mJ_sI, mJ_sR, mR_sI, mR_sJ]
          · subst eκ; simp (disch := omega) only [I_is, I_cl, I_sl, J_is, J_cl, J_sl, R_is, R_cl, R_sl, mI_sJ, mI_sR, mJ_sI, mJ_sR, mR_sI, mR_sJ]
          · subst eκ; simp (disch := omega) only [I_is, I_cl, I_sl, J_is, J_cl, J_sl, R_is, R_cl, R_sl, mI_sJ, mI_sR, mJ_sI, mJ_sR, mR_sI, mR_sJ]
          · subst eκ; simp (disch := omega) only [I_is, I_cl, I_sl, J_is, J_cl, J_sl, R_is, R_cl, R_sl, mI_sJ, mI_sR, mJ_sI, mJ_sR, mR_sI, mR_sJ]
          · subst eρ; simp (disch := omega) only [I_is, I_cl, I_sl, J_is, J_cl, J_sl, R_is, R_cl, R_sl, mI_sJ, mI_sR, mJ_sI, mJ_sR, mR_sI, mR_sJ]
          · subst eκ eρ; simp (disch := omega) only [I_is, I_cl, I_sl, J_is, J_cl, J_sl, R_is, R_cl, R_sl, mI_sJ, mI_sR, mJ_sI, mJ_sR, mR_sI, mR_sJ]; exact hw
          · subst eκ; simp (disch := omega) only [I_is, I_cl, I_sl, J_is, J_cl, J_sl, R_is, R_cl, R_sl, mI_sJ, mI_sR, mJ_sI, mJ_sR, mR_sI, mR_sJ]; exact q3
          · subst eρ; simp (disch := omega) only [I_is, I_cl, I_sl, J_is, J_cl, J_sl, R_is, R_cl, R_sl, mI_sJ, mI_sR, mJ_sI, mJ_sR, mR_sI, mR_sJ]; exact q5
        have hFw : Fld x k κw ρw := by
          refine ⟨⟨?_, ?_⟩, ?_, ?_⟩
          · subst eκ; simp (disch := omega) only [I_is, I_cl, I_sl, J_is, J_cl, J_sl, R_is, R_cl, R_sl, mI_sJ, mI_sR, mJ_sI, mJ_sR, mR_sI, mR_sJ]; rfl
          · subst eρ; simp (disch := omega) only [I_is, I_cl, I_sl, J_is, J_cl, J_sl, R_is, R_cl, R_sl, mI_sJ, mI_sR, mJ_sI, mJ_sR, mR_sI, mR_sJ]; rfl
          · subst eκ; simp (disch := omega) only [I_is, I_cl, I_sl, J_is, J_cl, J_sl, R_is, R_cl, R_sl, mI_sJ, mI_sR, mJ_sI, mJ_sR, mR_sI, mR_sJ]; rfl
          · subst eρ; simp (disch := omega) only [I_is, I_cl, I_sl, J_is, J_cl, J_sl, R_is, R_cl, R_sl, mI_sJ, mI_sR, mJ_sI, mJ_sR, mR_sI, mR_sJ]; rfl
        obtain ⟨-, ⟨hTCw, hTMw⟩, -⟩ := id hPw
        obtain ⟨ρ2, r2, s2, e2, t2⟩ := m_adv hM hmw hTCw hTMw hi
        have hM2 := hMw.ps hi s2 e2 t2
        have fld : ∀ {κ ρ ρ' : Mem} {i : Nat}, Fld x k κ ρ → Eqv avM ρ ρ' → Fld x k (psC κ i) ρ' := fun {κ ρ ρ' i} h e => by
          refine ⟨⟨?_, ?_⟩, ?_, ?_⟩
          · rw [I_cl (by omega)]; exact h.1.1
          · rw [e.I (by unfold avM; omega)]; exact h.1.2
          · rw [I_cl (by omega)]; exact h.2.1
          · rw [e.I (by unfold avM; omega)]; exact h.2.2
        obtain ⟨κ3, e3⟩ : ∃ κ3, κ3 = psC κw i := ⟨_, rfl⟩
        have hF2 : Fld x k κ3 ρ2 := by rw [e3]; exact fld hFw e2
        rw [← e3] at hM2
        obtain ⟨hP2, -⟩ := id hM2
        obtain ⟨⟨hC2, hm2⟩, ⟨hTC2, hTM2⟩, -⟩ := id hP2
        have gx := hM2.gx hG
        have stC : ∀ ρ1 (Q : Int32 → Mem → Prop), X_X8_expects G (fun w22 s21 => ((w22 = 0 → X_X0_readMember_130 G Q s21) ∧ (¬ w22 = 0 → X_X0_readSort G (RSq G Q) 7 x s21))) 3 58 (mg κ3 ρ1) → X_X0_readMember G Q 7 (mg κ ρ1) := fun ρ1 Q hh => by
          simp (disch := omega) only [X_X0_readMember, X_X0_readMember_0, mI_c, mR_c, mJ_c, sI_c, sJ_c, sR_c, hL.1, hL.2.1, hL.2.2, hC.1, hC.2.1, hC.2.2.1, lT, lF, tT, tF, eF, pF, zT, m1F, vT, cI, true_and, and_true, true_implies, false_implies, not_false_eq_true, not_true_eq_false, forall_eq, implies_true]
          refine c_isName1 hL hC hTC hn (br1 ?_)
          simp (disch := omega) only [mI_c, mR_c, mJ_c, sI_c, sJ_c, sR_c, hL.1, hL.2.1, hL.2.2, hC.1, hC.2.1, hC.2.2.1, h72, g2c, lT, lF, tT, tF, eF, pF, zT, m1F, vT, cI, true_and, and_true, true_implies, false_implies, not_false_eq_true, not_true_eq_false, forall_eq, implies_true]
          refine c_word hL hC hTC hn.1 ?_
          refine c_memberNamed0 hG hC hs (by omega) k1 law.2.1 hr hd (brT rfl ?_)
          have n16 : (16 : Int32) = nI 16 := rfl
          simp (disch := omega) only [mI_c, mR_c, mJ_c, sI_c, sJ_c, sR_c, hL.1, hL.2.1, hL.2.2, hC.1, hC.2.1, hC.2.2.1, h72, h71, g2c, hT.1, k1, n16, lT, lF, tT, tF, eF, pF, zT, m1F, vT, cI, true_and, and_true, true_implies, false_implies, not_false_eq_true, not_true_eq_false, forall_eq, implies_true]
          refine c_word hL hC hTC hn.1 ?_
          have gx' := gx
          rw [ex] at gx'
          have g5 := (hT.2.1 c (by omega)).2.1
          have g5l := (hT.2.1 c (by omega)).2.2.1
          simp (disch := omega) only [X_X6_addMember, X_X6_addMember_0, X_X2_begin, X_X2_begin_0, mI_c, mR_c, mJ_c, sI_c, sJ_c, sR_c, hL.1, hL.2.1, hL.2.2, hC.1, hC.2.1, hC.2.2.1, h72, h71, g2c, g5, g5l, gx', hT.1, hK.1, hK.2.1, hK.2.2, k1, q1, q2, n1, pk_sub, nI_add, lT, lF, tT, tF, eF, pF, zT, m1F, vT, cI, true_and, and_true, true_implies, false_implies, not_false_eq_true, not_true_eq_false, forall_eq, implies_true, I_is, I_cl, I_sl, J_is, J_cl, J_sl, R_is, R_cl, R_sl, mI_sJ, mI_sR, mJ_sI, mJ_sR, mR_sI, mR_sJ]
          have eκ2 := eκ
          rw [ex] at eκ2
          rw [show c + 1 - 1 = c by omega]
          show X_X8_pass G _ 3 (mg (sI (sR (sI (sI (sI (sI (sI (sJ (sI κ sd 2 (nI (tb (c + 1) + 1))) (sd + 64 + tb (c + 1)) 0 (wdx B z (pos B z i))) (sd + 64 + tb (c + 1)) 1 (nI c)) (sd + 64 + tb (c + 1)) 3 0) (sd + 64 + tb (c + 1)) 5 0) (sd + 64 + tb (c + 1)) 8 (-1)) (sd + 64 + tb (c + 1)) 11 (-1)) (sd + 5 + 5 * c) (mc c) (sd + 64 + tb (c + 1))) (sd + 4 + 5 * c) 4 (nI (mc c + 1))) ρ1)
          rw [← eκ2]
          refine c_pass hL hCw hTCw hi ?_
          rw [← e3, ← ex]
          rw [mR_c (by decide), show mR κ3 7 0 = 3 from hC2.1.2.2.2.2.2.2.2.2.2.2.2.2.2.1]
          exact ⟨hL.1.2.2.2.1, hh⟩
        have stM : ∀ κ1 (Q : Int32 → Mem → Prop), X_X12_needs G (fun w31 s30 => ((w31 = 0 → (bz (0 : Int32) ∧ Q (0 : Int32) s30)) ∧ (¬ w31 = 0 → X_X12_toldWord G (RMq G Q (nI (13 + c)) (nI k)) 1282 s30))) 1282 58 (mg κ1 ρ2) → X_X12_readMember G Q 1282 (nI (13 + c)) (mg κ1 ρ) := fun κ1 Q hh => by
          refine ⟨hM.1, m_isName1 hM hTM hn (br1 ?_)⟩
          rw [mJ_m (by decide), e52]
          refine m_memberNamed0 hM hm (by omega) k2 law.2.1 (fun j hj e => hd j hj ((hwd j hj).mpr e)) (brT m1_neg ?_)
          have n16 : (16 : Int32) = nI 16 := rfl
          have n13 : (13 : Int32) = nI 13 := rfl
          simp (disch := omega) only [mI_m, mR_m, mJ_m, sI_m, sJ_m, hM.1, hM.2, hm.1, hm.2, k2, n16, n13, e52, pk_mul, nI_add, pk_sub, lT, lF, tT, tF, eF, pF, zT, m1F, vT, cI, true_and, and_true, true_implies, false_implies, not_false_eq_true, not_true_eq_false, forall_eq, implies_true, I_is, I_cl, I_sl, J_is, J_cl, J_sl, R_is, R_cl, R_sl, mI_sJ, mI_sR, mJ_sI, mJ_sR, mR_sI, mR_sJ]
          rw [show 13 + c - 13 = c by omega, ← ek, ← eρ]
          exact r2 κ1 _ hh
        by_cases ac : sgA B z (pos B z (i + 1)) 58
        · have hi1 : i + 1 < T := hTC2.lt (by rw [ac.1]; decide)
          obtain ⟨ρ3, r3, s3, e4, t3⟩ := m_adv hM hm2 hTC2 hTM2 hi1
          have hM3 := hM2.ps hi1 s3 e4 t3
          have hF3 : Fld x k (psC κ3 (i + 1)) ρ3 := fld hF2 e4
          have st2C : ∀ ρ1 (Q : Int32 → Mem → Prop), X_X0_readSort G (RSq G Q) 7 x (mg (psC κ3 (i + 1)) ρ1) → X_X0_readMember G Q 7 (mg κ ρ1) := fun ρ1 Q hh => stC ρ1 Q (c_expects1 hL hC2 hTC2 (aS ac (by decide) rfl) (br1 hh))
          have st2M : ∀ κ1 (Q : Int32 → Mem → Prop), X_X12_toldWord G (RMq G Q (nI (13 + c)) (nI k)) 1282 (mg κ1 ρ3) → X_X12_readMember G Q 1282 (nI (13 + c)) (mg κ1 ρ) := fun κ1 Q hh => stM κ1 Q (m_needs1 (s := 58) hM hTM2 ac r3 (br1 hh))
          refine Jo.stp st2C st2M ?_
          by_cases a6 : twd B z (pos B z (i + 2)) = nI 6
          · exact j_ref hG hR hM3 hF3 (by omega : i ≤ i + 1 + 1) a6
          · by_cases a7 : twd B z (pos B z (i + 2)) = nI 7
            · exact j_list hG hR hM3 hF3 (by omega : i ≤ i + 1 + 1) a7
            · by_cases a12 : ∃ q, q < 3 ∧ twd B z (pos B z (i + 2)) = nI (12 + q)
              · obtain ⟨q, hq, a12⟩ := a12
                exact j_plain hG hR hM3 hF3 (by omega : i ≤ i + 1 + 1) hq a12
              · refine j_nam hG hR hM3 hF3 (by omega : i ≤ i + 1 + 1) (fun j hj e => ?_)
                rcases hj with rfl | rfl | rfl | rfl | rfl
                · exact a6 e
                · exact a7 e
                · exact a12 ⟨0, by decide, e⟩
                · exact a12 ⟨1, by decide, e⟩
                · exact a12 ⟨2, by decide, e⟩
        · exact Jo.fail (fun ρ1 Q hQ => stC ρ1 Q (c_expects0 hL hC2 hTC2 (nS ac (by decide) rfl) (br0 ⟨bz0, hQ⟩))) (fun κ1 Q hQ => stM κ1 Q (m_needs0 (s := 58) hM hTM2 (by decide) ac (br0 ⟨bz0, hQ⟩))) (hP2.fail _)
  · refine Jo.fail (fun ρ1 Q hQ => ?_) (fun κ1 Q hQ => ⟨hM.1, m_isName0 hM hTM hn (br0 (m_wrong hM hTM ⟨bz0, hQ⟩))⟩) (hP.fail (flt B z (pos B z i)) (p := pos B z i))
    simp (disch := omega) only [X_X0_readMember, X_X0_readMember_0, mI_c, mR_c, mJ_c, sI_c, sJ_c, sR_c, hL.1, hL.2.1, hL.2.2, hC.1, hC.2.1, hC.2.2.1, lT, lF, tT, tF, eF, pF, zT, m1F, vT, cI, true_and, and_true, true_implies, false_implies, not_false_eq_true, not_true_eq_false, forall_eq, implies_true]
    refine c_isName0 hL hC hTC hn (br0 ?_)
    simp (disch := omega) only [mI_c, mR_c, mJ_c, sI_c, sJ_c, sR_c, hL.1, hL.2.1, hL.2.2, hC.1, hC.2.1, hC.2.2.1, lT, lF, tT, tF, eF, pF, zT, m1F, vT, cI, true_and, and_true, true_implies, false_implies, not_false_eq_true, not_true_eq_false, forall_eq, implies_true]
    exact c_misplaced hL hC hTC ⟨bz0, hQ⟩
end RDM
