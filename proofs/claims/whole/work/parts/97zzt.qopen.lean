/-! openings, side by side -/
def RQ (G : Lay) (Q : Int32 → Mem → Prop) (w17 : Int32) (s16 : Mem) : Prop := ((w17 = 0 → (bz (0 : Int32) ∧ Q (0 : Int32) s16)) ∧ (¬ w17 = 0 → X_X12_readQuestion_92 G Q 1282 s16))
section QOPN
variable {G : Lay} {κ0 ρ0 κ κ' ρ ρ' ρ2 κ1 ρ1 κ2 : Mem} {sc n z T i c0 t t' k A S x l : Nat} {st r : List Nat} {B : Nat → Nat} {mc rt hc P D : Nat → Nat}
theorem QP.up (h : QP κ0 ρ0 sc B z T κ ρ i) (hM : LyM G) (hi : i < T) (h1 : StC κ') (h2 : StM ρ') (e1 : Eqv qrC κ κ') (e2 : Eqv qrM ρ ρ') : ∃ ρ2, RunM0 (fun Q σ => X_X12_advance G Q 1282 σ) ρ' ρ2 ∧ Eqv avM ρ' ρ2 ∧ QP κ0 ρ0 sc B z T (psC κ' i) ρ2 (i + 1) := by
  have hP := h.fr h1 h2 e1 e2
  obtain ⟨-, ⟨hTC, hTM⟩, -⟩ := id hP
  obtain ⟨ρ2, r2, s2, e2, t2⟩ := m_adv hM h2 hTC hTM hi
  exact ⟨ρ2, r2, e2, hP.ps hi s2 e2 t2⟩
theorem j_openings (hG : Ly G) : ∀ d i jj st κ ρ, T - i = d → jj ≤ i → QT κ0 ρ0 sc n mc B z T c0 0 κ ρ i st 0 A S P D → (∃ κ' ρ', Fq κ0 ρ0 κ' ρ' ∧ (∀ ρ1 (Q : Int32 → Mem → Prop), Q 0 (mg κ' ρ1) → Lw (X_X4_readOpenings_2_s G Q 11) (nI jj, mg κ ρ1)) ∧ ∀ κ1 (Q : Int32 → Mem → Prop), Q 0 (mg κ1 ρ') → Lw (X_X12_readTruth_9_s G (RQ G Q) 1282) (1, 1, mg κ1 ρ)) ∨ ∃ κ' ρ' i' st', i ≤ i' ∧ QT κ0 ρ0 sc n mc B z T c0 0 κ' ρ' i' st' 0 A S P D ∧ ¬ twd B z (pos B z i') = nI 21 ∧ ¬ sgA B z (pos B z i') 40 ∧ (∀ ρ1 (Q : Int32 → Mem → Prop), Q 1 (mg κ' ρ1) → Lw (X_X4_readOpenings_2_s G Q 11) (nI jj, mg κ ρ1)) ∧ ∀ κ1 (Q : Int32 → Mem → Prop), Lw (X_X12_readTruth_9_s G (RQ G Q) 1282) (1, 1, mg κ1 ρ') → Lw (X_X12_readTruth_9_s G (RQ G Q) 1282) (1, 1, mg κ1 ρ) := by
  have hL := hG.1
  have hM := hG.2.2.2
  have i110 : ∀ {κ ρ1 : Mem}, StC κ → mR (mg κ ρ1) 11 0 = 3 := fun {κ ρ1} hC => (mR_c (by decide) _).trans hC.1.2.2.2.2.2.2.2.2.2.2.2.2.2.2.2.2.1
  have g9 : gT G 3 = 9 := hL.1.2.2.2.1
  have g5 : gT G 11 = 5 := hL.1.2.2.2.2.2.2.2.2.2.2.2.2.2.2.2.2.1
  have o1 : ¬ (1 : Int32) = 0 := by decide
  intro d
  induction d using Nat.strongRecOn with
  | _ d ih =>
    intro i jj st κ ρ hd hj h
    obtain ⟨hP, ⟨m1, m2, m3, m4, m5⟩, ⟨c1, c2, c3, c4⟩, -, ⟨w1, w2⟩, -⟩ := id h
    obtain ⟨⟨hC, hm⟩, ⟨hTC, hTM⟩, -⟩ := id hP
    have hz := hTC.zz
    have ln := h.R.ln
    have l30 : ¬ (3000 : Int32) < nI jj := fun e => by
      have := (tI (a := 3000) (by decide) (by omega)).mp e
      omega
    have c3 : mI κ 11 4 = nI st.length := c3
    have c4 : mI κ 11 5 = nI (opn st) := c4
    -- one opening: x on the reference's side
    have one : ∀ x, (x = 2 ∨ x = 5) → i < T → (∀ ρ1 (Q : Int32 → Mem → Prop), Q (nI (if x = 5 then 5 else x - 2)) (mg κ ρ1) → X_X4_openingNow G Q 11 (mg κ ρ1)) → (∀ κ1 (Q : Int32 → Mem → Prop) (K : Int32 × Int32 × Mem → Prop), (((mI (mg κ1 ρ) 1282 88) = (20 : Int32) → X_X12_fails G (fun w4 s3 => (bz w4 ∧ RQ G Q w4 s3)) 1282 (4 : Int32) (mg κ1 ρ)) ∧ (¬ (mI (mg κ1 ρ) 1282 88) = (20 : Int32) → ∀ s2, s2 = sI (mg κ1 ρ) 1282 88 ((mI (mg κ1 ρ) 1282 88) + (1 : Int32)) → X_X12_waitsToo G (fun s2 => K (1, 1, s2)) 1282 (nI x) s2)) → X_X12_readTruth_9_s G (RQ G Q) 1282 K (1, 1, mg κ1 ρ)) → (∃ κ' ρ', Fq κ0 ρ0 κ' ρ' ∧ (∀ ρ1 (Q : Int32 → Mem → Prop), Q 0 (mg κ' ρ1) → Lw (X_X4_readOpenings_2_s G Q 11) (nI jj, mg κ ρ1)) ∧ ∀ κ1 (Q : Int32 → Mem → Prop), Q 0 (mg κ1 ρ') → Lw (X_X12_readTruth_9_s G (RQ G Q) 1282) (1, 1, mg κ1 ρ)) ∨ ∃ κ' ρ' i' st', i ≤ i' ∧ QT κ0 ρ0 sc n mc B z T c0 0 κ' ρ' i' st' 0 A S P D ∧ ¬ twd B z (pos B z i') = nI 21 ∧ ¬ sgA B z (pos B z i') 40 ∧ (∀ ρ1 (Q : Int32 → Mem → Prop), Q 1 (mg κ' ρ1) → Lw (X_X4_readOpenings_2_s G Q 11) (nI jj, mg κ ρ1)) ∧ ∀ κ1 (Q : Int32 → Mem → Prop), Lw (X_X12_readTruth_9_s G (RQ G Q) 1282) (1, 1, mg κ1 ρ') → Lw (X_X12_readTruth_9_s G (RQ G Q) 1282) (1, 1, mg κ1 ρ) := fun x hx hi oC oM => by
      have nm1 : ¬ nI (if x = 5 then 5 else x - 2) = (-1 : Int32) := mI1 (by rcases hx with rfl | rfl <;> decide)
      have lo : opn (x :: st) = opn st + 1 := by
        show (if x = 2 ∨ x = 5 then 1 else 0) + opn st = opn st + 1
        rw [if_pos hx]; omega
      have lb : bin (x :: st) = bin st := by
        show (if x = 3 ∨ x = 4 then 1 else 0) + bin st = bin st
        rw [if_neg (by omega)]; omega
      by_cases h20 : opn st = 20
      · refine Or.inl ⟨_, _, hP.fail 4 (p := pos B z i), fun ρ1 Q hQ => Lw.fin fun K => brF l30 ⟨g5, oC ρ1 _ (brF nm1 ?_)⟩, fun κ1 Q hQ => Lw.fin fun K => oM κ1 Q K (brT ?_ (m_fails hM hTM ⟨bz0, br0 ⟨bz0, hQ⟩⟩))⟩
        · rw [mI_c (by decide), c4, h20, i110 hC]
          exact brF (by decide) ⟨g9, c_refuse hL hC hTC ⟨bz0, hQ⟩⟩
        · rw [mI_m (by decide), m3, h20]; rfl
      · obtain ⟨κw, ew⟩ : ∃ κw, κw = sI (sI (sI κ 11 5 (nI (opn st + 1))) 12 st.length (nI (if x = 5 then 5 else x - 2))) 11 4 (nI (st.length + 1)) := ⟨_, rfl⟩
        obtain ⟨ρw, er⟩ : ∃ ρw, ρw = sI (sI (sI ρ 1282 88 (nI (opn st + 1))) 1346 st.length (nI x)) 1282 93 (nI (st.length + 1)) := ⟨_, rfl⟩
        have hCw : StC κw := by subst ew; exact ((hC.wI _ _ _).wI _ _ _).wI _ _ _
        have hmw : StM ρw := by subst er; exact ((hm.wI _ _ _).wI _ _ _).wI _ _ _
        have fC : Eqv (fun a q => ¬ (a = 12 ∧ q = st.length ∨ a = 11 ∧ (q = 4 ∨ q = 5))) κ κw := by
          subst ew; exact ((Eqv.wI (fun h => h (by omega)) _).sI (fun h => h (by omega)) _).sI (fun h => h (by omega)) _
        have fM : Eqv (fun a q => ¬ (a = 1346 ∧ q = st.length ∨ a = 1282 ∧ (q = 88 ∨ q = 93))) ρ ρw := by
          subst er; exact ((Eqv.wI (fun h => h (by omega)) _).sI (fun h => h (by omega)) _).sI (fun h => h (by omega)) _
        obtain ⟨ρ2, r2, e2, hP2⟩ := hP.up hM hi hCw hmw (fC.mo fun a q hh => by unfold qrC at hh; omega) (fM.mo fun a q hh => by unfold qrM at hh; omega)
        have hPw := hP.fr hCw hmw (fC.mo fun a q hh => by unfold qrC at hh; omega) (fM.mo fun a q hh => by unfold qrM at hh; omega)
        have hRw : QR n mc c0 0 κw ρw (i + 1) (x :: st) 0 A S P D := by
          refine h.R.push (x := x) (t' := 0) ⟨by rcases hx with e | e; exact Or.inl e; exact Or.inr (Or.inl e), w1⟩ (by omega) (by omega) fC fM ?_ ?_ ?_ ?_ ?_ ?_
          · subst ew; simp (disch := omega) only [I_is, I_cl, I_sl, J_is, J_cl, J_sl, R_is, R_cl, R_sl, mI_sJ, mI_sR, mJ_sI, mJ_sR, mR_sI, mR_sJ]
          · subst ew; simp (disch := omega) only [I_is, I_cl, I_sl, J_is, J_cl, J_sl, R_is, R_cl, R_sl, mI_sJ, mI_sR, mJ_sI, mJ_sR, mR_sI, mR_sJ]
          · rw [lo]; subst ew; simp (disch := omega) only [I_is, I_cl, I_sl, J_is, J_cl, J_sl, R_is, R_cl, R_sl, mI_sJ, mI_sR, mJ_sI, mJ_sR, mR_sI, mR_sJ]
          · subst er; simp (disch := omega) only [I_is, I_cl, I_sl, J_is, J_cl, J_sl, R_is, R_cl, R_sl, mI_sJ, mI_sR, mJ_sI, mJ_sR, mR_sI, mR_sJ]
          · subst er; simp (disch := omega) only [I_is, I_cl, I_sl, J_is, J_cl, J_sl, R_is, R_cl, R_sl, mI_sJ, mI_sR, mJ_sI, mJ_sR, mR_sI, mR_sJ]
          · rw [lo]; subst er; simp (disch := omega) only [I_is, I_cl, I_sl, J_is, J_cl, J_sl, R_is, R_cl, R_sl, mI_sJ, mI_sR, mJ_sI, mJ_sR, mR_sI, mR_sJ]
        have hR2 : QR n mc c0 0 (psC κw i) ρ2 (i + 1) (x :: st) 0 A S P D := hRw.fr (Nat.le_refl _) (fun a q hh => I_cl (by omega)) (fun a q hh => e2.I (by unfold avM; omega))
        have sC : ∀ ρ1 (Q : Int32 → Mem → Prop), Lw (X_X4_readOpenings_2_s G Q 11) (nI (jj + 1), mg (psC κw i) ρ1) → Lw (X_X4_readOpenings_2_s G Q 11) (nI jj, mg κ ρ1) := fun ρ1 Q hh => Lw.stp (fun K hK => brF l30 ⟨g5, oC ρ1 _ (brF nm1 (by
          rw [mI_c (by decide), c4]
          refine brT ((tI (b := 20) (by omega) (by decide)).mpr (by omega)) ?_
          intro s8 hs8
          subst hs8
          rw [sI_c (by decide), show nI (opn st) + (1 : Int32) = nI (opn st + 1) from by rw [nI_1]]
          refine c_push hL (hC.wI _ _ _) (l := st.length) (by rw [I_sl (by decide)]; exact c3) (by omega) ?_
          rw [← ew, i110 hCw]
          refine ⟨g9, c_pass hL hCw hPw.2.1.1 hi ?_⟩
          rw [nI_1]
          exact hK))⟩) hh
        have sM : ∀ κ1 (Q : Int32 → Mem → Prop), Lw (X_X12_readTruth_9_s G (RQ G Q) 1282) (1, 1, mg κ1 ρ2) → Lw (X_X12_readTruth_9_s G (RQ G Q) 1282) (1, 1, mg κ1 ρ) := fun κ1 Q hh => Lw.stp (fun K hK => oM κ1 Q K (brF (by rw [mI_m (by decide), m3]; exact fun e => h20 ((eI (b := 20) (by omega) (by decide)).mp e)) (by
          intro s2 hs2
          subst hs2
          rw [mI_m (by decide), m3, sI_m (by decide), show nI (opn st) + (1 : Int32) = nI (opn st + 1) from by rw [nI_1]]
          refine m_waitsToo hM (hm.wI _ _ _) (l := st.length) (by rw [I_sl (by decide)]; exact m5) (by omega) ?_
          rw [← er]
          exact r2 κ1 _ hK))) hh
        rcases ih (T - (i + 1)) (by omega) (i + 1) (jj + 1) (x :: st) _ ρ2 rfl (by omega) (hR2.qt hP2) with ⟨κf, ρf, y1, y2, y3⟩ | ⟨κf, ρf, i', st', y0, y1, y2, y3, y4, y5⟩
        · exact Or.inl ⟨κf, ρf, y1, fun ρ1 Q hQ => sC ρ1 Q (y2 ρ1 Q hQ), fun κ1 Q hQ => sM κ1 Q (y3 κ1 Q hQ)⟩
        · exact Or.inr ⟨κf, ρf, i', st', by omega, y1, y2, y3, fun ρ1 Q hQ => sC ρ1 Q (y4 ρ1 Q hQ), fun κ1 Q hQ => sM κ1 Q (y5 κ1 Q hQ)⟩
    by_cases a1 : twd B z (pos B z i) = nI 21
    · have hi : i < T := hTC.lt (by rw [((twd_k (by decide)).mp a1).1]; decide)
      refine one 2 (Or.inl rfl) hi (fun ρ1 Q hQ => ?_) (fun κ1 Q K hh => brF o1 ⟨hM.1, m_toldWord hM hTM (brF o1 (brT a1 ?_))⟩)
      · unfold X_X4_openingNow X_X4_openingNow_0
        rw [i110 hC]
        exact ⟨g5, g9, c_isAt1 hL hC hTC (aK a1 (by decide) rfl) (br1 hQ)⟩
      · refine ⟨hM.1, hh.1, fun e s2 hs2 => brT a1 ⟨hM.1, hh.2 e s2 hs2⟩⟩
    · by_cases a2 : sgA B z (pos B z i) 40
      · have hi : i < T := hTC.lt (by rw [a2.1]; decide)
        refine one 5 (Or.inr rfl) hi (fun ρ1 Q hQ => ?_) (fun κ1 Q K hh => brF o1 ⟨hM.1, m_toldWord hM hTM (brF o1 (brF a1 (m_is1 (s := 40) hM hTM a2 (br1 ?_))))⟩)
        · unfold X_X4_openingNow X_X4_openingNow_0
          rw [i110 hC]
          refine ⟨g5, g9, c_isAt0 hL hC hTC (nK a1 (by decide) rfl) (br0 ?_)⟩
          rw [i110 hC]
          exact ⟨g9, c_isAt1 hL hC hTC (aS a2 (by decide) rfl) (br1 hQ)⟩
        · exact ⟨hM.1, hh.1, fun e s2 hs2 => brF a1 ⟨hM.1, hh.2 e s2 hs2⟩⟩
      · refine Or.inr ⟨κ, ρ, i, st, Nat.le_refl _, h, a1, a2, fun ρ1 Q hQ => Lw.fin fun K => brF l30 ⟨g5, ?_⟩, fun κ1 Q hh => hh⟩
        unfold X_X4_openingNow X_X4_openingNow_0
        rw [i110 hC]
        refine ⟨g5, g9, c_isAt0 hL hC hTC (nK a1 (by decide) rfl) (br0 ?_)⟩
        rw [i110 hC]
        exact ⟨g9, c_isAt0 hL hC hTC (nS a2 (by decide) rfl) (br0 (brT rfl ⟨bz1, hQ⟩))⟩
end QOPN
