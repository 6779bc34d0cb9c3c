/-! what follows a term, side by side -/
def CL (G : Lay) (Q : Int32 → Mem → Prop) (l : Int32) (K12 : Int32 × Mem → Prop) (w11 : Int32) (s10 : Mem) : Prop := ((w11 = 0 → (bz (0 : Int32) ∧ Q (0 : Int32) s10)) ∧ (¬ w11 = 0 → gT G (mR s10 11 0) = 9 ∧ X_X8_isEnd G (fun w14 s13 => ((w14 = 0 → X_X4_readJoiner G (fun w16 s15 => ((w16 = 0 → (bz (0 : Int32) ∧ Q (0 : Int32) s15)) ∧ (¬ w16 = 0 → K12 ((l + (1 : Int32)), s15)))) 11 s13) ∧ (¬ w14 = 0 → X_X4_joinDown G (fun s17 => (((mI s17 11 4) = 0 → X_X4_readTerms_76 G Q s17) ∧ (¬ (mI s17 11 4) = 0 → gT G (mR s17 11 0) = 9 ∧ X_X8_misplaced G (fun w20 s19 => ((w20 = 0 → X_X4_readTerms_81 G Q (0 : Int32) s19) ∧ (¬ w20 = 0 → X_X4_readTerms_76 G Q s19))) (mR s17 11 0) s17))) 11 (2 : Int32) s13))) (mR s10 11 0) s10))
def QE (κ0 ρ0 : Mem) (sc n : Nat) (mc : Nat → Nat) (B : Nat → Nat) (z T c0 t : Nat) (κ ρ : Mem) : Prop := ∃ A S P D, QT κ0 ρ0 sc n mc B z T c0 t κ ρ T [] 0 A S P D
section QCL
variable {G : Lay} {κ0 ρ0 κ κ' ρ ρ' ρ2 κ1 ρ1 κ2 : Mem} {sc n z T i c0 t t' k A S x l : Nat} {st r : List Nat} {B : Nat → Nat} {mc rt hc P D : Nat → Nat}
/-- the reference at an end -/
theorem m_end92 (hM : LyM G) (hTM : TM ρ B z (pos B z i)) {Q : Int32 → Mem → Prop} (l1 : Int32) (h : (tkd B z (pos B z i) = 0 ∧ Q 1 (mg κ1 ρ)) ∨ (tkd B z (pos B z i) ≠ 0 ∧ Q 0 (mg κ1 (flM ρ (flt B z (pos B z i)) (pos B z i))))) : Lw (X_X12_readTruth_9_s G (RQ G Q) 1282) (l1, 0, mg κ1 ρ) := by
  refine Lw.fin fun K => brT rfl ⟨bz1, br1 ⟨hM.1, ?_⟩⟩
  rw [mI_m (by decide), hTM.2.2.2.1]
  have h5 : tkd B z (pos B z i) < 5 := by rcases tk_any (B := B) (z := z) (p := pos B z i) with e | e | e | e | e <;> omega
  rcases h with ⟨e, q⟩ | ⟨e, q⟩
  · rw [e]; exact brT rfl ⟨bz1, q⟩
  · exact brF (fun e2 => e ((eI (b := 0) (by omega) (by decide)).mp e2)) (m_wrong hM hTM (br0 ⟨bz0, q⟩))
/-- behind the joining down: no "and", no "or" on the top -/
theorem m_154e (hM : LyM G) (hm : StM ρ) (h : QR n mc c0 1 κ ρ i st 0 A S P D) (he : st = [] ∨ ∃ r, st = 5 :: r) {Q : Int32 → Mem → Prop} {K9 : Int32 × Int32 × Mem → Prop} {l1 l2 l3 : Int32} (q1 : l3 = 19 → X_X12_waitsToo G (fun s13 => X_X12_readTruth_241 G Q K9 1282 (1 : Int32) l2 s13) 1282 (4 : Int32) (mg κ1 ρ)) (q2 : ¬ l3 = 19 → st = [] → K9 (l1, 0, mg κ1 ρ)) (q3 : ¬ l3 = 19 → (∃ r, st = 5 :: r) → X_X12_needs G (fun w9 s8 => ((w9 = 0 → (bz (0 : Int32) ∧ Q (0 : Int32) s8)) ∧ (¬ w9 = 0 → ∀ s10, s10 = sI s8 1282 93 ((mI s8 1282 93) - (1 : Int32)) → ∀ s11, s11 = sI s10 1282 88 ((mI s10 1282 88) - (1 : Int32)) → X_X12_endsNot G (fun s12 => X_X12_readTruth_241 G Q K9 1282 l1 l2 s12) 1282 s11))) 1282 (41 : Int32) (mg κ1 ρ)) : Lw (X_X12_readTruth_154_s G Q K9 1282 l1 l2 l3) (mg κ1 ρ) := by
  have ln := h.ln
  obtain ⟨⟨m1, m2, m3, m4, m5⟩, -, ⟨s1, s2, s3⟩, ⟨w1, w2⟩, -⟩ := h
  refine Lw.fin fun K => ⟨hM.1, m_wait0 (v := 3) hM hm (by decide) m5 (by omega) s1 w1 (fun q e => by rcases he with e2 | ⟨u, e2⟩ <;> rw [e2] at e <;> cases e) (br0 (m_wait0 (v := 4) hM hm (by decide) m5 (by omega) s1 w1 (fun q e => by rcases he with e2 | ⟨u, e2⟩ <;> rw [e2] at e <;> cases e) (br0 ⟨q1, fun e => ?_⟩)))⟩
  rcases he with rfl | ⟨u, rfl⟩
  · exact m_wait0 (v := 5) hM hm (by decide) m5 (by omega) s1 w1 (fun q e => by cases e) (br0 (q2 e rfl))
  · have ll : (5 :: u).length = u.length + 1 := rfl
    exact m_wait1 (x := 5) hM hm (by decide) m5 (by omega) s1 (br1 (q3 e ⟨u, rfl⟩))
/-- a joiner -/
theorem j_joiner (hG : Ly G) (hP : QP κ0 ρ0 sc B z T κ ρ i) (hi : i < T) (hR : QR n mc c0 1 κ' ρ' i st 0 A S P D) (hC : StC κ') (hm : StM ρ') (e1 : Eqv qrC (psC κ i) κ') (e2 : Eqv qrM ρ ρ') (hx : x = 3 ∧ (st = [] ∨ (∃ r, st = 5 :: r) ∨ ∃ r, st = 4 :: r) ∨ x = 4 ∧ (st = [] ∨ ∃ r, st = 5 :: r)) : ∃ κe ρe, QT κ0 ρ0 sc n mc B z T c0 0 κe ρe (i + 1) (x :: st) 0 A S P D ∧ (∀ ρ1 (Q : Mem → Prop), Q (mg κe ρ1) → X_X4_push G Q 11 (nI (x - 2)) (mg κ' ρ1)) ∧ ∀ κ1 (Q : Mem → Prop), Q (mg κ1 ρe) → X_X12_waitsToo G Q 1282 (nI x) (mg κ1 ρ') := by
  have hL := hG.1
  have hM := hG.2.2.2
  have ln := hR.ln
  obtain ⟨⟨m1, m2, m3, m4, m5⟩, ⟨c1, c2, c3, c4⟩, -, ⟨w1, w2⟩, -⟩ := id hR
  have c3 : mI κ' 11 4 = nI st.length := c3
  have c4 : mI κ' 11 5 = nI (opn st) := c4
  obtain ⟨⟨hC0, hm0⟩, ⟨hTC, hTM⟩, ⟨f1, f2⟩, h112⟩ := id hP
  have hz := hTC.zz
  have x34 : x = 3 ∨ x = 4 := by rcases hx with h | h; exact Or.inl h.1; exact Or.inr h.1
  have lo : opn (x :: st) = opn st := by
    show (if x = 2 ∨ x = 5 then 1 else 0) + opn st = opn st
    rw [if_neg (by omega)]; omega
  have lb : bin (x :: st) = 1 + bin st := by
    show (if x = 3 ∨ x = 4 then 1 else 0) + bin st = 1 + bin st
    rw [if_pos x34]
  obtain ⟨κw, ew⟩ : ∃ κw, κw = sI (sI κ' 12 st.length (nI (x - 2))) 11 4 (nI (st.length + 1)) := ⟨_, rfl⟩
  obtain ⟨ρw, er⟩ : ∃ ρw, ρw = sI (sI ρ' 1346 st.length (nI x)) 1282 93 (nI (st.length + 1)) := ⟨_, rfl⟩
  have hCw : StC κw := by subst ew; exact (hC.wI _ _ _).wI _ _ _
  have hmw : StM ρw := by subst er; exact (hm.wI _ _ _).wI _ _ _
  have fC : Eqv (fun a q => ¬ (a = 12 ∧ q = st.length ∨ a = 11 ∧ (q = 4 ∨ q = 5))) κ' κw := by
    subst ew; exact (Eqv.wI (fun h => h (by omega)) _).sI (fun h => h (by omega)) _
  have fM : Eqv (fun a q => ¬ (a = 1346 ∧ q = st.length ∨ a = 1282 ∧ (q = 88 ∨ q = 93))) ρ' ρw := by
    subst er; exact (Eqv.wI (fun h => h (by omega)) _).sI (fun h => h (by omega)) _
  have hRw : QR n mc c0 0 κw ρw (i + 1) (x :: st) 0 A S P D := by
    refine hR.push (x := x) (t' := 0) ⟨?_, w1⟩ (by omega) (by omega) fC fM ?_ ?_ ?_ ?_ ?_ ?_
    · rcases hx with ⟨e, hh⟩ | ⟨e, hh⟩
      · exact Or.inr (Or.inr (Or.inr ⟨e, hh⟩))
      · exact Or.inr (Or.inr (Or.inl ⟨e, hh⟩))
    · rw [if_neg (by omega)]; subst ew; simp (disch := omega) only [I_is, I_cl, I_sl, J_is, J_cl, J_sl, R_is, R_cl, R_sl, mI_sJ, mI_sR, mJ_sI, mJ_sR, mR_sI, mR_sJ]
    · subst ew; simp (disch := omega) only [I_is, I_cl, I_sl, J_is, J_cl, J_sl, R_is, R_cl, R_sl, mI_sJ, mI_sR, mJ_sI, mJ_sR, mR_sI, mR_sJ]
    · rw [lo]; subst ew; simp (disch := omega) only [I_is, I_cl, I_sl, J_is, J_cl, J_sl, R_is, R_cl, R_sl, mI_sJ, mI_sR, mJ_sI, mJ_sR, mR_sI, mR_sJ]; exact c4
    · subst er; simp (disch := omega) only [I_is, I_cl, I_sl, J_is, J_cl, J_sl, R_is, R_cl, R_sl, mI_sJ, mI_sR, mJ_sI, mJ_sR, mR_sI, mR_sJ]
    · subst er; simp (disch := omega) only [I_is, I_cl, I_sl, J_is, J_cl, J_sl, R_is, R_cl, R_sl, mI_sJ, mI_sR, mJ_sI, mJ_sR, mR_sI, mR_sJ]
    · rw [lo]; subst er; simp (disch := omega) only [I_is, I_cl, I_sl, J_is, J_cl, J_sl, R_is, R_cl, R_sl, mI_sJ, mI_sR, mJ_sI, mJ_sR, mR_sI, mR_sJ]; exact m3
  -- the token
  have em : Eqv qrM ρ ρw := e2.tr (fM.mo fun a q hh => by unfold qrM at hh; omega)
  have ec : Eqv qrC (psC κ i) κw := e1.tr (fC.mo fun a q hh => by unfold qrC at hh; omega)
  have hPm := hP.fr hC0 hmw Eqv.rf em
  obtain ⟨ρ2, r2, s2, e3, t2⟩ := m_adv hM hmw hPm.2.1.1 hPm.2.1.2 hi
  have hP2 := hPm.ps hi s2 e3 t2
  have hP3 := hP2.fr hCw s2 ec Eqv.rf
  refine ⟨κw, ρ2, (hRw.fr (Nat.le_refl _) (fun a q hh => rfl) (fun a q hh => e3.I (by unfold avM; omega))).qt hP3, fun ρ1 Q hQ => ?_, fun κ1 Q hQ => ?_⟩
  · refine c_push hL hC c3 (by omega) ?_
    rw [← ew]; exact hQ
  · refine m_waitsToo hM hm m5 (by omega) ?_
    rw [← er]; exact r2 κ1 _ hQ
end QCL
