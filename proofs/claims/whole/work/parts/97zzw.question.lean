/-! readQuestion, side by side -/
def QZ (κ0 ρ0 : Mem) (n : Nat) (mc : Nat → Nat) (κ ρ : Mem) : Prop := ∃ c0 A S P D, (StC κ ∧ StM ρ) ∧ (Eqv qpC κ0 κ ∧ Eqv qpM ρ0 ρ) ∧ (mI κ 8 0 = nI c0 ∧ mI ρ 1282 89 = nI c0 ∧ c0 < n) ∧ (mI κ 8 1 = nI (P A) ∧ mI ρ 1282 80 = nI A) ∧ Prog n mc κ ρ c0 A 0 S P D ∧ (A = 0 ∨ D A = 1) ∧ (A ≤ 3000 ∧ P A ≤ 6000 ∧ S ≤ 3000)
section QQ
variable {G : Lay} {κ0 ρ0 κ κ' ρ ρ' ρ2 κ1 ρ1 κ2 : Mem} {sc n z T c0 : Nat} {B : Nat → Nat} {mc rt hc : Nat → Nat}
theorem QE.qz (h : QE κ0 ρ0 sc n mc B z T c0 1 κ ρ) : QZ κ0 ρ0 n mc κ ρ := by
  obtain ⟨A, S, P, D, hP, ⟨m1, m2, m3, m4, m5⟩, ⟨c1, c2, c3, c4⟩, -, -, pr, d, ⟨b1, b2, b3⟩, c0n⟩ := h
  have hz := hP.2.1.1.zz
  have l0 : ([] : List Nat).length = 0 := rfl
  exact ⟨c0, A, S, P, D, hP.1, hP.2.2.1, ⟨c1, m4, c0n⟩, ⟨c2, m1⟩, pr, Or.inr d, by omega, by omega, by omega⟩
theorem j_truth (hG : Ly G) (hS : RelS sc n mc rt hc κ0 ρ0) (hN : RelN sc n mc κ0 ρ0) : ∀ d i jj st A S P D κ ρ, T - i = d → jj ≤ i → QT κ0 ρ0 sc n mc B z T c0 0 κ ρ i st 0 A S P D → ∃ r κ' ρ', (∀ ρ1 (Q : Int32 → Mem → Prop), Q r (mg κ' ρ1) → Lw (X_X4_readTerms_12_s G Q 11) (nI jj, mg κ ρ1)) ∧ (∀ κ1 (Q : Int32 → Mem → Prop), Q r (mg κ1 ρ') → Lw (X_X12_readTruth_9_s G (RQ G Q) 1282) (1, 1, mg κ1 ρ)) ∧ ((r = 0 ∧ Fq κ0 ρ0 κ' ρ') ∨ (r = 1 ∧ QE κ0 ρ0 sc n mc B z T c0 1 κ' ρ')) := by
  have hL := hG.1
  have hM := hG.2.2.2
  have g5 : gT G 11 = 5 := hL.1.2.2.2.2.2.2.2.2.2.2.2.2.2.2.2.2.1
  have o1 : ¬ (1 : Int32) = 0 := by decide
  intro d
  induction d using Nat.strongRecOn with
  | _ d ih =>
    intro i jj st A S P D κ ρ hd hj h
    have hz := h.1.2.1.1.zz
    have l30 : ¬ (3000 : Int32) < nI jj := fun e => by
      have := (tI (a := 3000) (by decide) (by omega)).mp e
      omega
    rcases j_openings hG (T - i) i 0 st κ ρ rfl (Nat.zero_le _) h with ⟨κf, ρf, y1, y2, y3⟩ | ⟨κo, ρo, i', st', y0, y1, y2, y3, y4, y5⟩
    · exact ⟨0, κf, ρf, fun ρ1 Q hQ => Lw.fin fun K => brF l30 ⟨g5, y2 ρ1 _ (br0 ⟨bz0, hQ⟩)⟩, fun κ1 Q hQ => y3 κ1 Q hQ, Or.inl ⟨rfl, y1⟩⟩
    · obtain ⟨⟨hCo, hmo⟩, ⟨hTCo, hTMo⟩, -⟩ := id y1.1
      have hzo := hTCo.zz
      -- the term
      obtain ⟨rt', κt, ρt, tC, tM, th⟩ : ∃ r κ' ρ', RunC (fun Q σ => X_X4_readTerm G Q 11 σ) κo r κ' ∧ (∀ κ1 (Q : Int32 → Mem → Prop) (K : Int32 × Int32 × Mem → Prop), ((r = 0 → Q 0 (mg κ1 ρ')) ∧ (¬ r = 0 → X_X12_endsNot G (fun s5 => K (0, 1, s5)) 1282 (mg κ1 ρ'))) → X_X12_readTruth_9_s G (RQ G Q) 1282 K (1, 1, mg κ1 ρo)) ∧ ((r = 0 ∧ Fq κ0 ρ0 κ' ρ') ∨ (r = 1 ∧ ∃ i2 S' P' D', i' < i2 ∧ QT κ0 ρ0 sc n mc B z T c0 1 κ' ρ' i2 st' 0 (A + 1) S' P' D')) := by
        by_cases a22 : twd B z (pos B z i') = nI 22
        · obtain ⟨r, κt, ρt, tC, tM, th⟩ := j_termE hG hS hN y1 a22
          refine ⟨r, κt, ρt, tC, fun κ1 Q K hh => brF o1 ⟨hM.1, m_toldWord hM hTMo (brF o1 (brF y2 (m_is0 (s := 40) hM hTMo (by decide) y3 (br0 ?_))))⟩, th⟩
          have pw := tM κ1 (fun w3 s2 => ((w3 = 0 → (bz (0 : Int32) ∧ RQ G Q (0 : Int32) s2)) ∧ (¬ w3 = 0 → gT G 1282 = 13 ∧ X_X12_endsNot G (fun s5 => X_X12_readTruth_241 G (RQ G Q) K 1282 (0 : Int32) 1 s5) 1282 s2))) ⟨fun e => ⟨bz0, br0 ⟨bz0, hh.1 e⟩⟩, fun e => ⟨hM.1, hh.2 e⟩⟩
          have e94 : (fun s2 => X_X12_readTruth_94 G (RQ G Q) K 1282 1 (twd B z (pos B z i')) s2) = fun s2 => X_X12_readPath G (fun w3 s2 => ((w3 = 0 → (bz (0 : Int32) ∧ RQ G Q (0 : Int32) s2)) ∧ (¬ w3 = 0 → gT G 1282 = 13 ∧ X_X12_endsNot G (fun s5 => X_X12_readTruth_241 G (RQ G Q) K 1282 (0 : Int32) 1 s5) 1282 s2))) 1282 1 s2 := funext fun s2 => propext ⟨fun h => (h.1 a22).2, fun h => brT a22 ⟨hM.1, h⟩⟩
          have pw2 : X_X12_advance G (fun s2 => X_X12_readTruth_94 G (RQ G Q) K 1282 1 (twd B z (pos B z i')) s2) 1282 (mg κ1 ρo) := by rw [e94]; exact pw
          exact brF o1 (brT a22 ⟨hM.1, pw2⟩)
        · obtain ⟨r, κt, ρt, tC, tM, th⟩ := j_termC hG hS hN y1 a22
          refine ⟨r, κt, ρt, tC, fun κ1 Q K hh => brF o1 ⟨hM.1, m_toldWord hM hTMo (brF o1 (brF y2 (m_is0 (s := 40) hM hTMo (by decide) y3 (br0 ?_))))⟩, th⟩
          exact brF o1 (brF a22 (brF a22 ⟨hM.1, tM κ1 _ ⟨fun e => ⟨bz0, br0 ⟨bz0, hh.1 e⟩⟩, fun e => ⟨hM.1, hh.2 e⟩⟩⟩))
      rcases th with ⟨rfl, hF⟩ | ⟨rfl, i2, S', P', D', l2, hT2⟩
      · exact ⟨0, κt, ρt, fun ρ1 Q hQ => Lw.fin fun K => brF l30 ⟨g5, y4 ρ1 _ (br1 (tC ρ1 _ (br0 ⟨bz0, hQ⟩)))⟩, fun κ1 Q hQ => y5 κ1 Q (Lw.fin fun K => tM κ1 Q K (br0 hQ)), Or.inl ⟨rfl, hF⟩⟩
      · have hz2 := hT2.1.2.1.1.zz
        obtain ⟨ρe, st3, k3, A3, P3, D3, n1, n2, n3, n4, n5⟩ := m_endsNot hM st' 0 (A + 1) P' D' ρt hT2.1.1.2 (by omega) hT2.R
        have hPe : QP κ0 ρ0 sc B z T κt ρe i2 := hT2.1.fr hT2.1.1.1 n2 Eqv.rf n3
        have sM : ∀ κ1 (Q : Int32 → Mem → Prop), Lw (X_X12_readTruth_9_s G (RQ G Q) 1282) (0, 1, mg κ1 ρe) → Lw (X_X12_readTruth_9_s G (RQ G Q) 1282) (1, 1, mg κ1 ρ) := fun κ1 Q hh => y5 κ1 Q (Lw.stp (fun K hK => tM κ1 Q K (br1 (n1 κ1 _ hK))) hh)
        have sC : ∀ ρ1 (Q : Int32 → Mem → Prop) (K : Int32 × Mem → Prop), Lw (X_X4_readClosings_2_s G (CL G Q (nI jj) K) 11) (nI 0, mg κt ρ1) → X_X4_readTerms_12_s G Q 11 K (nI jj, mg κ ρ1) := fun ρ1 Q K hh => brF l30 ⟨g5, y4 ρ1 _ (br1 (tC ρ1 _ (br1 hh)))⟩
        rcases j_after hG (T - i2) i2 0 st3 k3 A3 P3 D3 κt ρe rfl (Nat.zero_le _) (n4.qt hPe) n5 with ⟨κf, ρf, z1, z2, z3⟩ | ⟨κf, ρf, z1, z2, z3⟩ | ⟨κf, ρf, i3, st4, A4, S4, P4, D4, z0, z1, z2, z3⟩
        · exact ⟨0, κf, ρf, fun ρ1 Q hQ => Lw.fin fun K => sC ρ1 Q K (z2 ρ1 Q (nI jj) K hQ), fun κ1 Q hQ => sM κ1 Q (z3 κ1 Q hQ), Or.inl ⟨rfl, z1⟩⟩
        · exact ⟨1, κf, ρf, fun ρ1 Q hQ => Lw.fin fun K => sC ρ1 Q K (z2 ρ1 Q (nI jj) K hQ), fun κ1 Q hQ => sM κ1 Q (z3 κ1 Q hQ), Or.inr ⟨rfl, z1⟩⟩
        · obtain ⟨r, κg, ρg, w1, w2, w3⟩ := ih (T - i3) (by omega) i3 (jj + 1) st4 A4 S4 P4 D4 κf ρf rfl (by omega) z1
          refine ⟨r, κg, ρg, fun ρ1 Q hQ => Lw.stp (b := (nI (jj + 1), mg κf ρ1)) (fun K hK => sC ρ1 Q K (z2 ρ1 Q (nI jj) K ?_)) (w1 ρ1 Q hQ), fun κ1 Q hQ => sM κ1 Q (z3 κ1 Q (w2 κ1 Q hQ)), w3⟩
          rw [nI_1]
          exact hK
theorem j_question (hG : Ly G) (hS : RelS sc n mc rt hc κ0 ρ0) (hN : RelN sc n mc κ0 ρ0) (hC : StC κ0) (hm : StM ρ0) (hT : TokC κ0 B z T) (h4 : mI κ0 3 4 = nI 0) (hB : BtM ρ0 B z) : Jq κ0 ρ0 (fun Q σ => X_X4_readQuestion G Q 11 sc σ) (fun Q σ => X_X12_readQuestion G Q 1282 σ) (QZ κ0 ρ0 n mc) κ0 ρ0 := by
  have hL := hG.1
  have hM := hG.2.2.2
  have hs := hS.1
  have hTs := hG.s hs
  have i110 : ∀ {κ ρ1 : Mem}, StC κ → mR (mg κ ρ1) 11 0 = 3 := fun {κ ρ1} hC => (mR_c (by decide) _).trans hC.1.2.2.2.2.2.2.2.2.2.2.2.2.2.2.2.2.1
  have i111 : ∀ {κ ρ1 : Mem}, StC κ → mR (mg κ ρ1) 11 1 = 8 := fun {κ ρ1} hC => (mR_c (by decide) _).trans hC.1.2.2.2.2.2.2.2.2.2.2.2.2.2.2.2.2.2.1
  have g9 : gT G 3 = 9 := hL.1.2.2.2.1
  have g4 : gT G 8 = 4 := hL.1.2.2.2.2.2.2.2.2.2.2.2.1
  have g5 : gT G 11 = 5 := hL.1.2.2.2.2.2.2.2.2.2.2.2.2.2.2.2.2.1
  obtain ⟨κa, ea⟩ : ∃ κa, κa = sR κ0 11 2 sc := ⟨_, rfl⟩
  obtain ⟨ρa, er⟩ : ∃ ρa, ρa = sI (sI (sI (sI ρ0 1282 50 0) 1282 80 0) 1282 87 0) 1282 88 0 := ⟨_, rfl⟩
  have hCa : StC κa := by subst ea; exact hC.wR (Or.inr (Or.inr (Or.inr (Or.inl ⟨rfl, rfl⟩))))
  have hma : StM ρa := by subst er; exact (((hm.wI _ _ _).wI _ _ _).wI _ _ _).wI _ _ _
  have fC : Eqv qpC κ0 κa := by subst ea; exact Eqv.wR (fun h => h (by omega)) _
  have fM : Eqv qpM ρ0 ρa := by
    subst er
    refine (((Eqv.wI ?_ _).sI ?_ _).sI ?_ _).sI ?_ _
    all_goals exact fun h => h (by omega)
  have hBa : BtM ρa B z := by
    obtain ⟨b1, b2, b3⟩ := hB
    subst er
    refine ⟨?_, b2, fun k hk => ?_⟩
    · simp (disch := omega) only [I_is, I_cl, I_sl, J_is, J_cl, J_sl, R_is, R_cl, R_sl, mI_sJ, mI_sR, mJ_sI, mJ_sR, mR_sI, mR_sJ]; exact b1
    · simp (disch := omega) only [I_is, I_cl, I_sl, J_is, J_cl, J_sl, R_is, R_cl, R_sl, mI_sJ, mI_sR, mJ_sI, mJ_sR, mR_sI, mR_sJ]; exact b3 k hk
  obtain ⟨ρb, r2, s2, e2, t2⟩ := m_advance (e := 0) hM hma hBa (Nat.zero_le _) (by subst er; simp (disch := omega) only [I_is, I_cl, I_sl, J_is, J_cl, J_sl, R_is, R_cl, R_sl, mI_sJ, mI_sR, mJ_sI, mJ_sR, mR_sI, mR_sJ]; rfl)
  have hBb : BtM ρb B z := by
    obtain ⟨b1, b2, b3⟩ := hBa
    refine ⟨(e2.I (by unfold avM; omega)).trans b1, b2, fun k hk => ?_⟩
    rw [e2.I (by unfold avM; omega)]; exact b3 k hk
  have hTa : TC κa B z T 0 := by
    subst ea
    exact ⟨hT.fr rfl (fun a k a1 a2 => ⟨rfl, rfl⟩), h4, Nat.zero_le _⟩
  have hP : QP κ0 ρ0 sc B z T κa ρb 0 := ⟨⟨hCa, s2⟩, ⟨hTa, hBb, t2⟩, ⟨fC, fM.tr (e2.mo fun a k hh => by unfold qpM at hh; unfold avM; omega)⟩, by subst ea; exact R_is _ _ _ _⟩
  obtain ⟨-, ⟨hTC, hTM⟩, -, h112⟩ := id hP
  have hz := hTC.zz
  have xS := hP.S hS
  have xN := hP.N hS hN
  have h12 := xS.le
  have i112 : ∀ ρ1, mR (mg κa ρ1) 11 2 = sc := fun ρ1 => (mR_c (by decide) _).trans h112
  have sl : ∀ q, q = 80 ∨ q = 87 ∨ q = 88 → mI ρb 1282 q = 0 := fun q hq => by
    rw [e2.I (by unfold avM; omega)]
    subst er
    rcases hq with rfl | rfl | rfl <;> simp (disch := omega) only [I_is, I_cl, I_sl, J_is, J_cl, J_sl, R_is, R_cl, R_sl, mI_sJ, mI_sR, mJ_sI, mJ_sR, mR_sI, mR_sJ]
  have goC : ∀ ρ1 (Q : Int32 → Mem → Prop), X_X8_isName G (fun w5 s4 => ((w5 = 0 → gT G (mR s4 11 0) = 9 ∧ X_X8_misplaced G (fun w29 s28 => (bz w29 ∧ Q w29 s28)) (mR s4 11 0) s4) ∧ (¬ w5 = 0 → gT G (mR s4 11 0) = 9 ∧ X_X8_word G (fun w8 s7 => gT G (mR s4 11 2) = 7 ∧ X_X6_classNamed G (fun w11 s10 => ((w11 = (-1 : Int32) → gT G (mR s10 11 0) = 9 ∧ X_X8_refuse G (fun w26 s25 => (bz w26 ∧ Q w26 s25)) (mR s10 11 0) (3 : Int32) s10) ∧ (¬ w11 = (-1 : Int32) → gT G (mR s10 11 1) = 4 ∧ X_X3_begin G (fun s13 => gT G (mR s13 11 0) = 9 ∧ X_X8_pass G (fun s15 => gT G (mR s15 11 0) = 9 ∧ X_X8_isEnd G (fun w18 s17 => ((w18 = 0 → gT G (mR s17 11 0) = 9 ∧ X_X8_expects G (fun w21 s20 => ((w21 = 0 → X_X4_readQuestion_103 G Q s20) ∧ (¬ w21 = 0 → X_X4_readTerms G (fun w23 s22 => ((w23 = 0 → X_X4_readQuestion_103 G Q s22) ∧ (¬ w23 = 0 → X_X4_readQuestion_104 G Q (1 : Int32) s22))) 11 s20))) (mR s17 11 0) (512852587109 : Int64) s17) ∧ (¬ w18 = 0 → (bz (1 : Int32) ∧ Q (1 : Int32) s17)))) (mR s15 11 0) s15) (mR s13 11 0) s13) (mR s10 11 1) w11 s10))) (mR s4 11 2) w8 s7) (mR s4 11 0) s4))) 3 (mg κa ρ1) → X_X4_readQuestion G Q 11 sc (mg κ0 ρ1) := fun ρ1 Q hh => by
    unfold X_X4_readQuestion X_X4_readQuestion_0
    refine ⟨g5, ?_⟩
    intro s2 hs2
    subst hs2
    rw [sR_c (by decide), ← ea, i110 hCa]
    exact ⟨g9, hh⟩
  have goM : ∀ κ1 (Q : Int32 → Mem → Prop), X_X12_isName G (fun w8 s7 => ((w8 = 0 → X_X12_wrong G (fun w21 s20 => (bz w21 ∧ Q w21 s20)) 1282 s7) ∧ (¬ w8 = 0 → X_X12_classNamed G (fun w10 s9 => ∀ s11, s11 = sI s9 1282 89 w10 → ((0 ≤ (mI s11 1282 89) → X_X12_advance G (fun s12 => X_X12_toldWord G (fun w14 s13 => ((w14 = (18 : Int32) → X_X12_advance G (fun s15 => X_X12_readTruth G (fun w17 s16 => ((w17 = 0 → (bz (0 : Int32) ∧ Q (0 : Int32) s16)) ∧ (¬ w17 = 0 → X_X12_readQuestion_92 G Q 1282 s16))) 1282 s15) 1282 s13) ∧ (¬ w14 = (18 : Int32) → X_X12_readQuestion_92 G Q 1282 s13))) 1282 s12) 1282 s11) ∧ (¬ 0 ≤ (mI s11 1282 89) → X_X12_fails G (fun w19 s18 => (bz w19 ∧ Q w19 s18)) 1282 (3 : Int32) s11))) 1282 (0 : Int32) (mI s7 1282 2) (mJ s7 1282 52) s7))) 1282 (mg κ1 ρb) → X_X12_readQuestion G Q 1282 (mg κ1 ρ0) := fun κ1 Q hh => by
    unfold X_X12_readQuestion X_X12_readQuestion_0
    refine ⟨hM.1, ?_⟩
    intro t2 ht2 t3 ht3 t4 ht4 t5 ht5
    subst ht2
    subst ht3
    subst ht4
    subst ht5
    rw [sI_m (by decide), sI_m (by decide), sI_m (by decide), sI_m (by decide), ← er]
    exact r2 κ1 _ hh
  by_cases hn : nmT B z (pos B z 0)
  · have hi : 0 < T := hTC.lt (by rw [hn.1]; decide)
    have hw := wd_rel hTM.lo hn.1
    have e52 : mJ ρb 1282 52 = wdy B z (pos B z 0) := hTM.2.2.2.2.1 hn.1
    have ef : fdx (fun j => mJ κa (sc + 4 + 5 * j) 0) (wdx B z (pos B z 0)) n = fdx (fun j => mJ ρb 1284 j) (wdy B z (pos B z 0)) n := fdx_cg n fun j hj => (xN.1 j hj).iff hw
    have clM : ∀ κ1 (Q : Int32 → Mem → Prop), Q (fdx (fun j => mJ ρb 1284 j) (wdy B z (pos B z 0)) n) (mg κ1 ρb) → X_X12_classNamed G Q 1282 0 (nI n) (wdy B z (pos B z 0)) (mg κ1 ρb) := fun κ1 Q q => by
      rcases fdx_cases (f := fun j => mJ ρb 1284 j) (v := wdy B z (pos B z 0)) n (by omega) with ⟨e, h⟩ | ⟨c, hc, e, h1, h2⟩
      · rw [e] at q; exact m_classNamed0 (b := 0) hM s2 (by decide) h12 (fun j hj => by rw [Nat.zero_add]; exact h j hj) q
      · rw [e] at q; exact m_classNamed1 (b := 0) hM s2 (by decide) h12 hc (by rw [Nat.zero_add]; exact h1) (fun j hj => by rw [Nat.zero_add]; exact h2 j hj) q
    have e2n : mI ρb 1282 2 = nI n := xS.2.2.2.2.1
    rcases fdx_cases (f := fun j => mJ ρb 1284 j) (v := wdy B z (pos B z 0)) n (by omega) with ⟨eb, -⟩ | ⟨c, hcn, eb, -⟩
    · have hPx : QP κ0 ρ0 sc B z T κa (sI ρb 1282 89 (-1)) 0 := hP.fr hCa (s2.wI _ _ _) Eqv.rf (Eqv.wI (fun h => h (by omega)) _)
      refine Jq.fail (fun ρ1 Q hQ => goC ρ1 Q (c_isName1 hL hCa hTC hn (br1 ?_))) (fun κ1 Q hQ => goM κ1 Q (m_isName1 hM hTM hn (br1 ?_))) (hPx.fail 3 (p := pos B z 0))
      · rw [i110 hCa]
        refine ⟨g9, c_word hL hCa hTC hn.1 ?_⟩
        rw [i112]
        refine ⟨hTs.1.1, c_clsNamed hG hCa hs xS.nC h12 ?_⟩
        rw [ef, eb]
        refine brT rfl ?_
        rw [i110 hCa]
        exact ⟨g9, c_refuse hL hCa hTC ⟨bz0, hQ⟩⟩
      · rw [mI_m (by decide), mJ_m (by decide), e52, e2n]
        refine clM κ1 _ ?_
        rw [eb]
        intro s11 hs11
        subst hs11
        rw [sI_m (by decide), mI_m (by decide), I_is]
        exact brF (by decide) (m_fails hM hPx.2.1.2 ⟨bz0, hQ⟩)
    · obtain ⟨κw, ew⟩ : ∃ κw, κw = sI (sI κa 8 0 (nI c)) 8 1 0 := ⟨_, rfl⟩
      obtain ⟨ρw, erw⟩ : ∃ ρw, ρw = sI ρb 1282 89 (nI c) := ⟨_, rfl⟩
      have hCw : StC κw := by subst ew; exact (hCa.wI _ _ _).wI _ _ _
      have hmw : StM ρw := by subst erw; exact s2.wI _ _ _
      have hPw : QP κ0 ρ0 sc B z T κw ρw 0 := hP.fr hCw hmw (by subst ew; exact (Eqv.wI (fun h => h (by omega)) _).sI (fun h => h (by omega)) _) (by subst erw; exact Eqv.wI (fun h => h (by omega)) _)
      obtain ⟨-, ⟨hTCw, hTMw⟩, -⟩ := id hPw
      obtain ⟨ρ2, r3, s3, e3, t3⟩ := m_adv hM hmw hTCw hTMw hi
      have hP1 := hPw.ps hi s3 e3 t3
      obtain ⟨⟨hC1, -⟩, ⟨hTC1, hTM1⟩, -⟩ := id hP1
      have f8 : mI (psC κw 0) 8 0 = nI c ∧ mI (psC κw 0) 8 1 = 0 := by
        rw [I_cl (by decide), I_cl (by decide)]; subst ew; simp (disch := omega) only [I_is, I_cl, I_sl, J_is, J_cl, J_sl, R_is, R_cl, R_sl, mI_sJ, mI_sR, mJ_sI, mJ_sR, mR_sI, mR_sJ]; exact ⟨trivial, trivial⟩
      have f89 : mI ρ2 1282 89 = nI c := by rw [e3.I (by unfold avM; omega)]; subst erw; exact I_is _ _ _ _
      have sl2 : ∀ q, q = 80 ∨ q = 87 ∨ q = 88 → mI ρ2 1282 q = 0 := fun q hq => by
        rw [e3.I (by unfold avM; omega)]; subst erw; rw [I_sl (by omega)]; exact sl q hq
      have prC : ∀ ρ1 (Q : Int32 → Mem → Prop), X_X8_isEnd G (fun w18 s17 => ((w18 = 0 → gT G (mR s17 11 0) = 9 ∧ X_X8_expects G (fun w21 s20 => ((w21 = 0 → X_X4_readQuestion_103 G Q s20) ∧ (¬ w21 = 0 → X_X4_readTerms G (fun w23 s22 => ((w23 = 0 → X_X4_readQuestion_103 G Q s22) ∧ (¬ w23 = 0 → X_X4_readQuestion_104 G Q (1 : Int32) s22))) 11 s20))) (mR s17 11 0) (512852587109 : Int64) s17) ∧ (¬ w18 = 0 → (bz (1 : Int32) ∧ Q (1 : Int32) s17)))) 3 (mg (psC κw 0) ρ1) → X_X4_readQuestion G Q 11 sc (mg κ0 ρ1) := fun ρ1 Q hh => goC ρ1 Q (c_isName1 hL hCa hTC hn (br1 (by
        rw [i110 hCa]
        refine ⟨g9, c_word hL hCa hTC hn.1 ?_⟩
        rw [i112]
        refine ⟨hTs.1.1, c_clsNamed hG hCa hs xS.nC h12 ?_⟩
        rw [ef, eb]
        refine brF (mI1 (by omega)) ?_
        rw [i111 hCa]
        refine ⟨g4, g4, ?_⟩
        intro u2 hu2 u3 hu3
        subst hu2
        subst hu3
        rw [sI_c (by decide), sI_c (by decide), ← ew, i110 hCw]
        refine ⟨g9, c_pass hL hCw hTCw hi ?_⟩
        rw [i110 hC1]
        exact ⟨g9, hh⟩)))
      have prM : ∀ κ1 (Q : Int32 → Mem → Prop), ((twd B z (pos B z 1) = (18 : Int32) → X_X12_advance G (fun s15 => X_X12_readTruth G (fun w17 s16 => ((w17 = 0 → (bz (0 : Int32) ∧ Q (0 : Int32) s16)) ∧ (¬ w17 = 0 → X_X12_readQuestion_92 G Q 1282 s16))) 1282 s15) 1282 (mg κ1 ρ2)) ∧ (¬ twd B z (pos B z 1) = (18 : Int32) → X_X12_readQuestion_92 G Q 1282 (mg κ1 ρ2))) → X_X12_readQuestion G Q 1282 (mg κ1 ρ0) := fun κ1 Q hh => goM κ1 Q (m_isName1 hM hTM hn (br1 (by
        rw [mI_m (by decide), mJ_m (by decide), e52, e2n]
        refine clM κ1 _ ?_
        rw [eb]
        intro s11 hs11
        subst hs11
        rw [sI_m (by decide), mI_m (by decide), I_is, ← erw]
        exact brT (rng_nI (by omega)) (r3 κ1 _ (m_toldWord hM hTM1 hh)))))
      by_cases hT1 : 1 = T
      · have k0 : tkd B z (pos B z 1) = 0 := hTC1.end_iff.mpr hT1
        have n18 : ¬ twd B z (pos B z 1) = (18 : Int32) := fun e => by have := ((twd_k (k := 18) (by decide)).mp e).1; omega
        refine Jq.good (κ' := psC κw 0) (ρ' := ρ2) (fun ρ1 Q hQ => prC ρ1 Q (c_isEnd1 hL hC1 hTC1 hT1 (br1 ⟨bz1, hQ⟩))) (fun κ1 Q hQ => prM κ1 Q (brF n18 ⟨hM.1, ?_⟩)) ⟨c, 0, 0, fun _ => 0, fun _ => 0, hP1.1, hP1.2.2.1, ⟨f8.1, f89, hcn⟩, ⟨f8.2, sl2 80 (Or.inl rfl)⟩, ⟨fun j hj => by omega, fun j hj => by omega, fun j x y => by omega, rfl, rfl, Nat.le_refl _⟩, Or.inl rfl, by decide, by decide, by decide⟩
        rw [mI_m (by decide), hTM1.2.2.2.1, k0]
        exact brT rfl ⟨bz1, hQ⟩
      · have hi1 : 1 < T := by omega
        have k0 : tkd B z (pos B z 1) ≠ 0 := fun e => hT1 (hTC1.end_iff.mp e)
        by_cases a18 : twd B z (pos B z 1) = nI 18
        · obtain ⟨ρ4, r4, s4, e4, t4⟩ := m_adv hM s3 hTC1 hTM1 hi1
          have hP2 := hP1.ps hi1 s4 e4 t4
          obtain ⟨κv, ev⟩ : ∃ κv, κv = sI (sI (psC (psC κw 0) 1) 11 4 0) 11 5 0 := ⟨_, rfl⟩
          obtain ⟨ρv, erv⟩ : ∃ ρv, ρv = sI ρ4 1282 93 0 := ⟨_, rfl⟩
          have hCv : StC κv := by subst ev; exact (hP2.1.1.wI _ _ _).wI _ _ _
          have hmv : StM ρv := by subst erv; exact s4.wI _ _ _
          have hPv : QP κ0 ρ0 sc B z T κv ρv 2 := hP2.fr hCv hmv (by subst ev; exact (Eqv.wI (fun h => h (by omega)) _).sI (fun h => h (by omega)) _) (by subst erv; exact Eqv.wI (fun h => h (by omega)) _)
          have g4' : ∀ q, q ≠ 93 → q < 49 ∨ 53 < q → mI ρv 1282 q = mI ρ2 1282 q := fun q h1 h2 => by subst erv; rw [I_sl h1]; exact e4.I (by unfold avM; omega)
          have hRv : QR n mc c 0 κv ρv 2 [] 0 0 0 (fun _ => 0) (fun _ => 0) := by
            refine ⟨⟨?_, ?_, ?_, ?_, ?_⟩, ⟨?_, ?_, ?_, ?_⟩, ⟨trivial, trivial, fun q hq => by omega⟩, ⟨trivial, by decide⟩, ⟨fun j hj => by omega, fun j hj => by omega, fun j x y => by omega, rfl, rfl, Nat.le_refl _⟩, rfl, ⟨by decide, by decide, by decide⟩, hcn⟩
            · rw [g4' _ (by decide) (by omega)]; exact sl2 80 (Or.inl rfl)
            · rw [g4' _ (by decide) (by omega)]; exact sl2 87 (Or.inr (Or.inl rfl))
            · rw [g4' _ (by decide) (by omega)]; exact sl2 88 (Or.inr (Or.inr rfl))
            · rw [g4' _ (by decide) (by omega)]; exact f89
            · subst erv; exact I_is _ _ _ _
            · subst ev; simp (disch := omega) only [I_is, I_cl, I_sl, J_is, J_cl, J_sl, R_is, R_cl, R_sl, mI_sJ, mI_sR, mJ_sI, mJ_sR, mR_sI, mR_sJ]; rw [I_cl (by decide)] at f8; exact f8.1
            · subst ev; simp (disch := omega) only [I_is, I_cl, I_sl, J_is, J_cl, J_sl, R_is, R_cl, R_sl, mI_sJ, mI_sR, mJ_sI, mJ_sR, mR_sI, mR_sJ]; have := f8.2; rw [I_cl (by decide)] at this; exact this
            · subst ev; simp (disch := omega) only [I_is, I_cl, I_sl, J_is, J_cl, J_sl, R_is, R_cl, R_sl, mI_sJ, mI_sR, mJ_sI, mJ_sR, mR_sI, mR_sJ]; rfl
            · subst ev; exact I_is _ _ _ _
          obtain ⟨r, κf, ρf, w1, w2, w3⟩ := j_truth hG hS hN (T - 2) 2 0 [] 0 0 _ _ κv ρv rfl (Nat.zero_le _) (hRv.qt hPv)
          have w3' : (r = 0 ∧ Fq κ0 ρ0 κf ρf) ∨ (r = 1 ∧ QZ κ0 ρ0 n mc κf ρf) := by
            rcases w3 with w | ⟨w, w'⟩
            · exact Or.inl w
            · exact Or.inr ⟨w, w'.qz⟩
          refine ⟨r, κf, ρf, fun ρ1 Q hQ => prC ρ1 Q (c_isEnd0 hL hC1 hTC1 hi1 (br0 ?_)), fun κ1 Q hQ => prM κ1 Q (brT a18 (r4 κ1 _ ⟨hM.1, ?_⟩)), w3'⟩
          · rw [i110 hC1]
            refine ⟨g9, c_expects1 hL hC1 hTC1 (aK a18 (by decide) rfl) (br1 ⟨g5, ?_⟩)⟩
            intro u2 hu2 u3 hu3
            subst hu2
            subst hu3
            rw [sI_c (by decide), sI_c (by decide), ← ev]
            refine w1 ρ1 _ ?_
            rcases w3 with ⟨rfl, -⟩ | ⟨rfl, -⟩
            · exact br0 ⟨bz0, hQ⟩
            · exact br1 ⟨bz1, hQ⟩
          · intro u2 hu2
            subst hu2
            rw [sI_m (by decide), ← erv]
            exact w2 κ1 Q hQ
        · refine Jq.fail (fun ρ1 Q hQ => prC ρ1 Q (c_isEnd0 hL hC1 hTC1 hi1 (br0 ?_))) (fun κ1 Q hQ => prM κ1 Q (brF a18 ⟨hM.1, ?_⟩)) (hP1.fail (flt B z (pos B z 1)) (p := pos B z 1))
          · rw [i110 hC1]
            exact ⟨g9, c_expects0 hL hC1 hTC1 (nK a18 (by decide) rfl) (br0 ⟨bz0, hQ⟩)⟩
          · rw [mI_m (by decide), hTM1.2.2.2.1]
            have h5 : tkd B z (pos B z 1) < 5 := by rcases tk_any (B := B) (z := z) (p := pos B z 1) with e | e | e | e | e <;> omega
            exact brF (fun e => k0 ((eI (b := 0) (by omega) (by decide)).mp e)) (m_wrong hM hTM1 (br0 ⟨bz0, hQ⟩))
  · refine Jq.fail (fun ρ1 Q hQ => goC ρ1 Q (c_isName0 hL hCa hTC hn (br0 ?_))) (fun κ1 Q hQ => goM κ1 Q (m_isName0 hM hTM hn (br0 (m_wrong hM hTM ⟨bz0, hQ⟩)))) (hP.fail (flt B z (pos B z 0)) (p := pos B z 0))
    rw [i110 hCa]
    exact ⟨g9, c_misplaced hL hCa hTC ⟨bz0, hQ⟩⟩
end QQ
