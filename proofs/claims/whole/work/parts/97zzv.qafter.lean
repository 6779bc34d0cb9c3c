section QAF
variable {G : Lay} {κ0 ρ0 κ κ' ρ ρ' ρ2 κ1 ρ1 κ2 : Mem} {sc n z T i c0 t t' k A S x l : Nat} {st r : List Nat} {B : Nat → Nat} {mc rt hc P D : Nat → Nat}
theorem QR.close (h : QR n mc c0 1 κ ρ i (5 :: r) 0 A S P D) (fC : Eqv (fun a q => ¬ (a = 11 ∧ (q = 4 ∨ q = 5))) κ κ') (fM : Eqv (fun a q => ¬ (a = 1282 ∧ (q = 88 ∨ q = 93))) ρ ρ') (e4 : mI κ' 11 4 = nI r.length) (e5 : mI κ' 11 5 = nI (opn r)) (e93 : mI ρ' 1282 93 = nI r.length) (e88 : mI ρ' 1282 88 = nI (opn r)) : QR n mc c0 1 κ' ρ' i r 0 A S P D := by
  obtain ⟨⟨m1, m2, m3, m4, m5⟩, ⟨c1, c2, c3, c4⟩, ⟨s1, s2, s3⟩, ⟨w1, w2⟩, pr, d, ⟨b1, b2, b3⟩, c0n⟩ := h
  have ll : (5 :: r).length = r.length + 1 := rfl
  have lo : opn (5 :: r) = 1 + opn r := rfl
  have lb : bin (5 :: r) = 0 + bin r := rfl
  refine ⟨⟨?_, ?_, e88, ?_, e93⟩, ⟨?_, ?_, e4, e5⟩, ⟨s1.2.fr fun q hq => fM.I (by omega), s2.2.fr fun q hq => fC.I (by omega), fun q hq => by omega⟩, ⟨w1.2, by omega⟩, pr.fr (fun a j hj x y => fM.I (by omega)) (fun q hq => fM.I (by omega)) (fun j => ⟨fM.I (by omega), fM.I (by omega)⟩) (fun q hq => fC.I (by omega)), by omega, ⟨by omega, by omega, by omega⟩, c0n⟩
  · rw [fM.I (by omega)]; exact m1
  · rw [fM.I (by omega)]; exact m2
  · rw [fM.I (by omega)]; exact m4
  · rw [fC.I (by omega)]; exact c1
  · rw [fC.I (by omega)]; exact c2
def AfR (G : Lay) (κ0 ρ0 : Mem) (sc n : Nat) (mc : Nat → Nat) (B : Nat → Nat) (z T c0 : Nat) (i jj : Nat) (κ ρ : Mem) : Prop := (∃ κ' ρ', Fq κ0 ρ0 κ' ρ' ∧ (∀ ρ1 (Q : Int32 → Mem → Prop) (l : Int32) (K12 : Int32 × Mem → Prop), Q 0 (mg κ' ρ1) → Lw (X_X4_readClosings_2_s G (CL G Q l K12) 11) (nI jj, mg κ ρ1)) ∧ ∀ κ1 (Q : Int32 → Mem → Prop), Q 0 (mg κ1 ρ') → Lw (X_X12_readTruth_9_s G (RQ G Q) 1282) (0, 1, mg κ1 ρ)) ∨ (∃ κ' ρ', QE κ0 ρ0 sc n mc B z T c0 1 κ' ρ' ∧ (∀ ρ1 (Q : Int32 → Mem → Prop) (l : Int32) (K12 : Int32 × Mem → Prop), Q 1 (mg κ' ρ1) → Lw (X_X4_readClosings_2_s G (CL G Q l K12) 11) (nI jj, mg κ ρ1)) ∧ ∀ κ1 (Q : Int32 → Mem → Prop), Q 1 (mg κ1 ρ') → Lw (X_X12_readTruth_9_s G (RQ G Q) 1282) (0, 1, mg κ1 ρ)) ∨ ∃ κ' ρ' i' st' A' S' P' D', i < i' ∧ QT κ0 ρ0 sc n mc B z T c0 0 κ' ρ' i' st' 0 A' S' P' D' ∧ (∀ ρ1 (Q : Int32 → Mem → Prop) (l : Int32) (K12 : Int32 × Mem → Prop), K12 (l + 1, mg κ' ρ1) → Lw (X_X4_readClosings_2_s G (CL G Q l K12) 11) (nI jj, mg κ ρ1)) ∧ ∀ κ1 (Q : Int32 → Mem → Prop), Lw (X_X12_readTruth_9_s G (RQ G Q) 1282) (1, 1, mg κ1 ρ') → Lw (X_X12_readTruth_9_s G (RQ G Q) 1282) (0, 1, mg κ1 ρ)
theorem j_after (hG : Ly G) : ∀ d i jj st k A P D κ ρ, T - i = d → jj ≤ i → QT κ0 ρ0 sc n mc B z T c0 1 κ ρ i st k A S P D → (∀ r, st ≠ 2 :: r) → AfR G κ0 ρ0 sc n mc B z T c0 i jj κ ρ := by
  have hL := hG.1
  have hM := hG.2.2.2
  have i110 : ∀ {κ ρ1 : Mem}, StC κ → mR (mg κ ρ1) 11 0 = 3 := fun {κ ρ1} hC => (mR_c (by decide) _).trans hC.1.2.2.2.2.2.2.2.2.2.2.2.2.2.2.2.2.1
  have g9 : gT G 3 = 9 := hL.1.2.2.2.1
  have g5 : gT G 11 = 5 := hL.1.2.2.2.2.2.2.2.2.2.2.2.2.2.2.2.2.1
  have o1 : ¬ (1 : Int32) = 0 := by decide
  intro d
  induction d using Nat.strongRecOn with
  | _ d ih =>
    intro i jj st k A P D κ ρ hd hj h hn
    obtain ⟨hP, -⟩ := id h
    obtain ⟨⟨hC, hm⟩, ⟨hTC, hTM⟩, -⟩ := id hP
    have hz := hTC.zz
    have hi3 : i ≤ 3000 := by omega
    have l30 : ¬ (3000 : Int32) < nI jj := fun e => by
      have := (tI (a := 3000) (by decide) (by omega)).mp e
      omega
    have go154 : ¬ twd B z (pos B z i) = nI 20 → ∀ κ1 (Q : Int32 → Mem → Prop) (K : Int32 × Int32 × Mem → Prop), Lw (X_X12_readTruth_154_s G (RQ G Q) K 1282 0 1 (twd B z (pos B z i))) (mg κ1 ρ) → X_X12_readTruth_9_s G (RQ G Q) 1282 K (0, 1, mg κ1 ρ) := fun a κ1 Q K hh => brF o1 ⟨hM.1, m_toldWord hM hTM (brT rfl (brT rfl (brF a hh)))⟩
    have sgn : ∀ {q : Nat}, q < 23 → tkd B z (pos B z i) ≠ 2 → ¬ twd B z (pos B z i) = nI q := fun {q} hq hk e => hk ((twd_k hq).mp e).1
    obtain ⟨κd, ρd, st', A', P', D', ⟨x1, x2⟩, ⟨x3, x3'⟩, x4, x5, x6, x7⟩ := j_down2 hG hC hm hi3 h.R hn
    have hPd : QP κ0 ρ0 sc B z T κd ρd i := hP.fr x1 x2 x3 x3'
    obtain ⟨-, ⟨hTCd, hTMd⟩, -⟩ := id hPd
    have w4 : mI κd 11 4 = nI st'.length := x4.2.1.2.2.1
    have ln := x4.ln
    by_cases ac : sgA B z (pos B z i) 41
    · have hi : i < T := hTC.lt (by rw [ac.1]; decide)
      have k2 : tkd B z (pos B z i) ≠ 2 := by rw [ac.1]; decide
      have clC : ∀ ρ1 (Q : Int32 → Mem → Prop) (K : Int32 × Mem → Prop), (((mI (mg κd ρ1) 11 4) = 0 → gT G (mR (mg κd ρ1) 11 0) = 9 ∧ X_X8_misplaced G (fun w12 s11 => (bz w12 ∧ Q w12 s11)) (mR (mg κd ρ1) 11 0) (mg κd ρ1)) ∧ (¬ (mI (mg κd ρ1) 11 4) = 0 → ∀ s6, s6 = sI (mg κd ρ1) 11 4 ((mI (mg κd ρ1) 11 4) - (1 : Int32)) → ∀ s7, s7 = sI s6 11 5 ((mI s6 11 5) - (1 : Int32)) → gT G (mR s7 11 0) = 9 ∧ X_X8_pass G (fun s9 => K ((nI jj + (1 : Int32)), s9)) (mR s7 11 0) s7)) → X_X4_readClosings_2_s G Q 11 K (nI jj, mg κ ρ1) := fun ρ1 Q K hh => by
        refine brF l30 ?_
        rw [i110 hC]
        exact ⟨g5, g9, c_isAt1 hL hC hTC (aS ac (by decide) rfl) (br1 (x6 ρ1 _ hh))⟩
      rcases x5 with e0 | ⟨r, e5⟩
      · subst e0
        refine Or.inl ⟨_, _, hPd.fail (flt B z (pos B z i)) (p := pos B z i), fun ρ1 Q l K12 hQ => Lw.fin fun K => clC ρ1 _ K (brT ?_ ?_), fun κ1 Q hQ => Lw.stp (b := (0, 0, mg κ1 ρd)) (fun K hK => go154 (sgn (by decide) k2) κ1 Q K (x7 κ1 _ K 0 1 _ (m_154e hM x2 x4 (Or.inl rfl) (fun e => absurd e (sgn (q := 19) (by decide) k2)) (fun _ _ => hK) (fun _ e => by obtain ⟨u, e⟩ := e; cases e)))) (m_end92 hM hTMd 0 (Or.inr ⟨by rw [ac.1]; decide, hQ⟩))⟩
        · rw [mI_c (by decide), w4]; rfl
        · rw [i110 x1]
          exact ⟨g9, c_misplaced hL x1 hTCd ⟨bz0, br0 ⟨bz0, hQ⟩⟩⟩
      · subst e5
        have ll : (5 :: r).length = r.length + 1 := rfl
        have lo : opn (5 :: r) = 1 + opn r := rfl
        have w4 : mI κd 11 4 = nI (r.length + 1) := w4
        have w5 : mI κd 11 5 = nI (1 + opn r) := x4.2.1.2.2.2
        have v93 : mI ρd 1282 93 = nI (r.length + 1) := x4.1.2.2.2.2
        have v88 : mI ρd 1282 88 = nI (1 + opn r) := x4.1.2.2.1
        have o20 : 1 + opn r ≤ 20 := x4.2.2.2.1.2
        have sub1 : nI (r.length + 1) - 1 = nI r.length := by
          show nI (r.length + 1) - nI 1 = nI r.length
          rw [pk_sub (by omega), show r.length + 1 - 1 = r.length by omega]
        have sub2 : nI (1 + opn r) - 1 = nI (opn r) := by
          show nI (1 + opn r) - nI 1 = nI (opn r)
          rw [pk_sub (by omega), show 1 + opn r - 1 = opn r by omega]
        obtain ⟨κc, ec⟩ : ∃ κc, κc = sI (sI κd 11 4 (nI r.length)) 11 5 (nI (opn r)) := ⟨_, rfl⟩
        have hCc : StC κc := by subst ec; exact (x1.wI _ _ _).wI _ _ _
        have fC : Eqv (fun a q => ¬ (a = 11 ∧ (q = 4 ∨ q = 5))) κd κc := by subst ec; exact (Eqv.wI (fun h => h (by omega)) _).sI (fun h => h (by omega)) _
        have hPc : QP κ0 ρ0 sc B z T κc ρd i := hPd.fr hCc x2 (fC.mo fun a q hh => by unfold qrC at hh; omega) Eqv.rf
        obtain ⟨ρ2, r2, s2, e2, t2⟩ := m_adv hM x2 hPc.2.1.1 hTMd hi
        have hP2 := hPc.ps hi s2 e2 t2
        have v93' : mI ρ2 1282 93 = nI (r.length + 1) := by rw [e2.I (by unfold avM; omega)]; exact v93
        have v88' : mI ρ2 1282 88 = nI (1 + opn r) := by rw [e2.I (by unfold avM; omega)]; exact v88
        obtain ⟨ρ3, e3⟩ : ∃ ρ3, ρ3 = sI (sI ρ2 1282 93 (nI r.length)) 1282 88 (nI (opn r)) := ⟨_, rfl⟩
        have hm3 : StM ρ3 := by subst e3; exact (s2.wI _ _ _).wI _ _ _
        have fM : Eqv (fun a q => ¬ (a = 1282 ∧ (q = 88 ∨ q = 93))) ρ2 ρ3 := by subst e3; exact (Eqv.wI (fun h => h (by omega)) _).sI (fun h => h (by omega)) _
        have hPq : QP κ0 ρ0 sc B z T (psC κc i) ρ3 (i + 1) := hP2.fr hP2.1.1 hm3 Eqv.rf (fM.mo fun a q hh => by unfold qrM at hh; omega)
        have hR2 : QR n mc c0 1 (psC κd i) ρ2 (i + 1) (5 :: r) 0 A' S P' D' := x4.fr (Nat.le_succ i) (fun a q hh => I_cl (by omega)) (fun a q hh => e2.I (by unfold avM; omega))
        have hR3 : QR n mc c0 1 (psC κc i) ρ3 (i + 1) r 0 A' S P' D' := by
          refine hR2.close (fun a q hh => ?_) fM ?_ ?_ ?_ ?_
          · have := fC a q hh
            by_cases e : a = 3 ∧ q = 4
            · obtain ⟨rfl, rfl⟩ := e
              exact ⟨by rw [I_is, I_is], this.2⟩
            · refine ⟨?_, this.2⟩
              show mI (sI κc 3 4 _) a q = mI (sI κd 3 4 _) a q
              rw [mI_sI, mI_sI, if_neg e, if_neg e]; exact this.1
          · rw [I_cl (by decide)]; subst ec; simp (disch := omega) only [I_is, I_cl, I_sl, J_is, J_cl, J_sl, R_is, R_cl, R_sl, mI_sJ, mI_sR, mJ_sI, mJ_sR, mR_sI, mR_sJ]
          · rw [I_cl (by decide)]; subst ec; exact I_is _ _ _ _
          · subst e3; simp (disch := omega) only [I_is, I_cl, I_sl, J_is, J_cl, J_sl, R_is, R_cl, R_sl, mI_sJ, mI_sR, mJ_sI, mJ_sR, mR_sI, mR_sJ]
          · subst e3; exact I_is _ _ _ _
        obtain ⟨ρ4, st4, k4, A4, P4, D4, n1, n2, n3, n4, n5⟩ := m_endsNot hM r 0 A' P' D' ρ3 hm3 (by omega) hR3
        have hP4 : QP κ0 ρ0 sc B z T (psC κc i) ρ4 (i + 1) := hPq.fr hPq.1.1 n2 Eqv.rf n3
        have sC : ∀ ρ1 (Q : Int32 → Mem → Prop), Lw (X_X4_readClosings_2_s G Q 11) (nI (jj + 1), mg (psC κc i) ρ1) → Lw (X_X4_readClosings_2_s G Q 11) (nI jj, mg κ ρ1) := fun ρ1 Q hh => Lw.stp (fun K hK => clC ρ1 Q K (brF (by rw [mI_c (by decide), w4]; exact fun e => by have := (eI (b := 0) (by omega) (by decide)).mp e; omega) (by
          intro s6 hs6 s7 hs7
          subst hs6
          subst hs7
          rw [mI_c (by decide), w4, sub1, sI_c (by decide), mI_c (by decide), I_sl (by decide), w5, sub2, sI_c (by decide), ← ec, i110 hCc]
          refine ⟨g9, c_pass hL hCc hPc.2.1.1 hi ?_⟩
          rw [nI_1]
          exact hK))) hh
        have sM : ∀ κ1 (Q : Int32 → Mem → Prop), Lw (X_X12_readTruth_9_s G (RQ G Q) 1282) (0, 1, mg κ1 ρ4) → Lw (X_X12_readTruth_9_s G (RQ G Q) 1282) (0, 1, mg κ1 ρ) := fun κ1 Q hh => Lw.stp (fun K hK => go154 (sgn (by decide) k2) κ1 Q K (x7 κ1 _ K 0 1 _ (m_154e hM x2 x4 (Or.inr ⟨r, rfl⟩) (fun e => absurd e (sgn (q := 19) (by decide) k2)) (fun _ e => by cases e) (fun _ _ => m_needs1 (s := 41) hM hTMd ac r2 (br1 (by
          intro s10 hs10 s11 hs11
          subst hs10
          subst hs11
          rw [mI_m (by decide), v93', sub1, sI_m (by decide), mI_m (by decide), I_sl (by decide), v88', sub2, sI_m (by decide), ← e3]
          exact n1 κ1 _ hK)))))) hh
        rcases ih (T - (i + 1)) (by omega) (i + 1) (jj + 1) st4 k4 A4 P4 D4 _ ρ4 rfl (by omega) (n4.qt hP4) n5 with ⟨κf, ρf, y1, y2, y3⟩ | ⟨κf, ρf, y1, y2, y3⟩ | ⟨κf, ρf, i', st'', A'', S'', P'', D'', y0, y1, y2, y3⟩
        · exact Or.inl ⟨κf, ρf, y1, fun ρ1 Q l K12 hQ => sC ρ1 _ (y2 ρ1 Q l K12 hQ), fun κ1 Q hQ => sM κ1 Q (y3 κ1 Q hQ)⟩
        · exact Or.inr (Or.inl ⟨κf, ρf, y1, fun ρ1 Q l K12 hQ => sC ρ1 _ (y2 ρ1 Q l K12 hQ), fun κ1 Q hQ => sM κ1 Q (y3 κ1 Q hQ)⟩)
        · exact Or.inr (Or.inr ⟨κf, ρf, i', st'', A'', S'', P'', D'', by omega, y1, fun ρ1 Q l K12 hQ => sC ρ1 _ (y2 ρ1 Q l K12 hQ), fun κ1 Q hQ => sM κ1 Q (y3 κ1 Q hQ)⟩)
    · have noC : ∀ ρ1 (Q : Int32 → Mem → Prop) (l : Int32) (K12 : Int32 × Mem → Prop), CL G Q l K12 1 (mg κ ρ1) → Lw (X_X4_readClosings_2_s G (CL G Q l K12) 11) (nI jj, mg κ ρ1) := fun ρ1 Q l K12 hh => Lw.fin fun K => by
        refine brF l30 ?_
        rw [i110 hC]
        exact ⟨g5, g9, c_isAt0 hL hC hTC (nS ac (by decide) rfl) (br0 ⟨bz1, hh⟩)⟩
      by_cases hT : i = T
      · subst hT
        have k0 : tkd B z (pos B z i) = 0 := hTC.end_iff.mpr rfl
        have k2 : tkd B z (pos B z i) ≠ 2 := by rw [k0]; decide
        have enC : ∀ ρ1 (Q : Int32 → Mem → Prop) (l : Int32) (K12 : Int32 × Mem → Prop), (((mI (mg κd ρ1) 11 4) = 0 → X_X4_readTerms_76 G Q (mg κd ρ1)) ∧ (¬ (mI (mg κd ρ1) 11 4) = 0 → gT G (mR (mg κd ρ1) 11 0) = 9 ∧ X_X8_misplaced G (fun w20 s19 => ((w20 = 0 → X_X4_readTerms_81 G Q (0 : Int32) s19) ∧ (¬ w20 = 0 → X_X4_readTerms_76 G Q s19))) (mR (mg κd ρ1) 11 0) (mg κd ρ1))) → CL G Q l K12 1 (mg κ ρ1) := fun ρ1 Q l K12 hh => br1 (by
          rw [i110 hC]
          exact ⟨g9, c_isEnd1 hL hC hTC rfl (br1 (x6 ρ1 _ hh))⟩)
        rcases x5 with e0 | ⟨r, e5⟩
        · subst e0
          exact Or.inr (Or.inl ⟨κd, ρd, ⟨A', S, P', D', x4.qt hPd⟩, fun ρ1 Q l K12 hQ => noC ρ1 Q l K12 (enC ρ1 Q l K12 (brT (by rw [mI_c (by decide), w4]; rfl) ⟨bz1, hQ⟩)), fun κ1 Q hQ => Lw.stp (b := (0, 0, mg κ1 ρd)) (fun K hK => go154 (sgn (by decide) k2) κ1 Q K (x7 κ1 _ K 0 1 _ (m_154e hM x2 x4 (Or.inl rfl) (fun e => absurd e (sgn (q := 19) (by decide) k2)) (fun _ _ => hK) (fun _ e => by obtain ⟨u, e⟩ := e; cases e)))) (m_end92 hM hTMd 0 (Or.inl ⟨k0, hQ⟩))⟩)
        · subst e5
          have w4 : mI κd 11 4 = nI (r.length + 1) := w4
          have ll : (5 :: r).length = r.length + 1 := rfl
          refine Or.inl ⟨_, _, hPd.fail (flt B z (pos B z i)) (p := pos B z i), fun ρ1 Q l K12 hQ => noC ρ1 Q l K12 (enC ρ1 Q l K12 (brF ?_ ?_)), fun κ1 Q hQ => Lw.fin fun K => go154 (sgn (by decide) k2) κ1 Q K (x7 κ1 _ K 0 1 _ (m_154e hM x2 x4 (Or.inr ⟨r, rfl⟩) (fun e => absurd e (sgn (q := 19) (by decide) k2)) (fun _ e => by cases e) (fun _ _ => m_needs0 (s := 41) hM hTMd (by decide) ac (br0 ⟨bz0, br0 ⟨bz0, hQ⟩⟩))))⟩
          · rw [mI_c (by decide), w4]; exact fun e => by have := (eI (b := 0) (by omega) (by decide)).mp e; omega
          · rw [i110 x1]
            exact ⟨g9, c_misplaced hL x1 hTCd (br0 ⟨bz0, hQ⟩)⟩
      · have hi : i < T := by omega
        have k0 : tkd B z (pos B z i) ≠ 0 := fun e => hT (hTC.end_iff.mp e)
        have joC : ∀ ρ1 (Q : Int32 → Mem → Prop) (l : Int32) (K12 : Int32 × Mem → Prop), X_X4_readJoiner G (fun w16 s15 => ((w16 = 0 → (bz (0 : Int32) ∧ Q (0 : Int32) s15)) ∧ (¬ w16 = 0 → K12 ((l + (1 : Int32)), s15)))) 11 (mg κ ρ1) → Lw (X_X4_readClosings_2_s G (CL G Q l K12) 11) (nI jj, mg κ ρ1) := fun ρ1 Q l K12 hh => noC ρ1 Q l K12 (br1 (by
          rw [i110 hC]
          exact ⟨g9, c_isEnd0 hL hC hTC hi (br0 hh)⟩))
        have hCp : StC (psC κ i) := hC.wI _ _ _
        have hRp : QR n mc c0 1 (psC κ i) ρ i st k A S P D := h.R.fr (Nat.le_refl _) (fun a q hh => I_cl (by omega)) (fun a q hh => rfl)
        by_cases a20 : twd B z (pos B z i) = nI 20
        · obtain ⟨κe, ρe, st2, A2, P2, D2, ⟨y1, y2⟩, ⟨y3, y3'⟩, y4, y5, y6, y7⟩ := j_down1 hG hCp hm hi3 hRp hn
          obtain ⟨κf, ρf, u1, u2, u3⟩ := j_joiner (x := 3) hG hP hi y4 y1 y2 y3 y3' (Or.inl ⟨rfl, y5⟩)
          refine Or.inr (Or.inr ⟨κf, ρf, i + 1, _, A2, S, P2, D2, by omega, u1, fun ρ1 Q l K12 hK => joC ρ1 Q l K12 ?_, fun κ1 Q hh => Lw.stp (fun K hK => brF o1 ⟨hM.1, m_toldWord hM hTM (brT rfl (brT rfl (brT a20 (y7 κ1 _ K 1 (u3 κ1 _ hK)))))⟩) hh⟩)
          unfold X_X4_readJoiner X_X4_readJoiner_0
          rw [i110 hC]
          exact ⟨g5, g9, c_takes1 hL hC hTC (aK a20 (by decide) rfl) (br1 ⟨g5, y6 ρ1 _ (u2 ρ1 _ ⟨bz1, br1 hK⟩)⟩)⟩
        · by_cases a19 : twd B z (pos B z i) = nI 19
          · obtain ⟨κe, ρe, st2, A2, P2, D2, ⟨y1, y2⟩, ⟨y3, y3'⟩, y4, y5, y6, y7⟩ := j_down2 hG hCp hm hi3 hRp hn
            obtain ⟨κf, ρf, u1, u2, u3⟩ := j_joiner (x := 4) hG hP hi y4 y1 y2 y3 y3' (Or.inr ⟨rfl, y5⟩)
            refine Or.inr (Or.inr ⟨κf, ρf, i + 1, _, A2, S, P2, D2, by omega, u1, fun ρ1 Q l K12 hK => joC ρ1 Q l K12 ?_, fun κ1 Q hh => Lw.stp (fun K hK => go154 a20 κ1 Q K (y7 κ1 _ K 0 1 _ (m_154e hM y2 y4 y5 (fun _ => u3 κ1 _ hK) (fun e => absurd a19 e) (fun e => absurd a19 e)))) hh⟩)
            unfold X_X4_readJoiner X_X4_readJoiner_0
            rw [i110 hC]
            refine ⟨g5, g9, c_takes0 hL hC hTC (nK a20 (by decide) rfl) (br0 ?_)⟩
            rw [i110 hC]
            exact ⟨g9, c_expects1 hL hC hTC (aK a19 (by decide) rfl) (br1 ⟨g5, y6 ρ1 _ (u2 ρ1 _ ⟨bz1, br1 hK⟩)⟩)⟩
          · have hPx : QP κ0 ρ0 sc B z T κ ρd i := hP.fr hC x2 Eqv.rf x3'
            refine Or.inl ⟨_, _, hPx.fail (flt B z (pos B z i)) (p := pos B z i), fun ρ1 Q l K12 hQ => joC ρ1 Q l K12 ?_, fun κ1 Q hQ => ?_⟩
            · unfold X_X4_readJoiner X_X4_readJoiner_0
              rw [i110 hC]
              refine ⟨g5, g9, c_takes0 hL hC hTC (nK a20 (by decide) rfl) (br0 ?_)⟩
              rw [i110 hC]
              exact ⟨g9, c_expects0 hL hC hTC (nK a19 (by decide) rfl) (br0 ⟨bz0, br0 ⟨bz0, hQ⟩⟩)⟩
            · rcases x5 with e0 | ⟨r, e5⟩
              · subst e0
                exact Lw.stp (b := (0, 0, mg κ1 ρd)) (fun K hK => go154 a20 κ1 Q K (x7 κ1 _ K 0 1 _ (m_154e hM x2 x4 (Or.inl rfl) (fun e => absurd e a19) (fun _ _ => hK) (fun _ e => by obtain ⟨u, e⟩ := e; cases e)))) (m_end92 hM hTMd 0 (Or.inr ⟨k0, hQ⟩))
              · subst e5
                exact Lw.fin fun K => go154 a20 κ1 Q K (x7 κ1 _ K 0 1 _ (m_154e hM x2 x4 (Or.inr ⟨r, rfl⟩) (fun e => absurd e a19) (fun _ e => by cases e) (fun _ _ => m_needs0 (s := 41) hM hTMd (by decide) ac (br0 ⟨bz0, br0 ⟨bz0, hQ⟩⟩))))
end QAF
