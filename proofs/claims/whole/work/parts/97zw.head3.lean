section CLS
variable {G : Lay} {κ0 ρ0 κ κ' ρ ρ' ρ2 : Mem} {sd z T i c n nw p t lo : Nat} {B : Nat → Nat} {mc rt hc ow tb : Nat → Nat} {w : Int64} {pa wy : Int32}
def OrM (G : Lay) (n : Nat) (Q : Int32 → Mem → Prop) (s21 : Mem) : Prop := X_X12_toldWord G (fun w23 s22 => ((w23 = (1 : Int32) → X_X12_advance G (fun s31 => X_X12_isName G (fun w33 s32 => ((w33 = 0 → X_X12_wrong G (fun w50 s49 => (bz w50 ∧ Q w50 s49)) 1282 s32) ∧ (¬ w33 = 0 → X_X12_classNamed G (fun w35 s34 => ((0 ≤ w35 → gT G (mR s34 1282 4) = 100 ∧ vp_in (nI (13 + n)) (gL G (mR s34 1282 4)) ∧ ∀ s38, s38 = sI s34 (mR s34 1282 4) (nI (13 + n)).toNatClampNeg w35 → gT G (mR s38 1282 5) = 100 ∧ vp_in ((13 : Int32) + w35) (gL G (mR s38 1282 5)) ∧ vp_in (nI (13 + n)) (gL G (mR s38 1282 5)) ∧ ∀ s42, s42 = sI s38 (mR s38 1282 5) (nI (13 + n)).toNatClampNeg (mI s38 (mR s38 1282 5) ((13 : Int32) + w35).toNatClampNeg) → gT G (mR s42 1282 6) = 100 ∧ vp_in ((13 : Int32) + w35) (gL G (mR s42 1282 6)) ∧ vp_in (nI (13 + n)) (gL G (mR s42 1282 6)) ∧ ∀ s46, s46 = sI s42 (mR s42 1282 6) (nI (13 + n)).toNatClampNeg (mI s42 (mR s42 1282 6) ((13 : Int32) + w35).toNatClampNeg) → X_X12_readClass_188 G Q 1282 (nI (13 + n)) w35 (0 : Int32) s46) ∧ (¬ 0 ≤ w35 → X_X12_fails G (fun w48 s47 => (bz w48 ∧ Q w48 s47)) 1282 (3 : Int32) s34))) 1282 (13 : Int32) (mI s32 1282 56) (mJ s32 1282 52) s32))) 1282 s31) 1282 s22) ∧ (¬ w23 = (1 : Int32) → X_X12_toldWord G (fun w25 s24 => ((w25 = (2 : Int32) → X_X12_advance G (fun s26 => X_X12_toldWord G (fun w28 s27 => ((w28 = (3 : Int32) → X_X12_readClass_258 G Q 1282 (nI (13 + n)) w28 s27) ∧ (¬ w28 = (3 : Int32) → ((w28 = (4 : Int32) → X_X12_readClass_258 G Q 1282 (nI (13 + n)) w28 s27) ∧ (¬ w28 = (4 : Int32) → ((w28 = (5 : Int32) → X_X12_readClass_258 G Q 1282 (nI (13 + n)) w28 s27) ∧ (¬ w28 = (5 : Int32) → X_X12_wrong G (fun w30 s29 => (bz w30 ∧ Q w30 s29)) 1282 s27))))))) 1282 s26) 1282 s24) ∧ (¬ w25 = (2 : Int32) → X_X12_readClass_271 G Q 1282 (nI (13 + n)) s24))) 1282 s22))) 1282 s21
theorem rng_nI {a : Nat} (h : a < 2147483648) : (0 : Int32) ≤ nI a := by
  have := pI h
  exact Int32.not_lt.mp this
theorem j_origin (hG : Ly G) (hP : PS κ0 ρ0 sd B z T κ ρ i) (hR : DRf sd n nw mc rt hc ow tb κ ρ) (hn : n < 12) (hH : PHd n mc w ρ (-1) 0) (hlo : lo ≤ i) : Jh G κ0 ρ0 sd n (fun Q σ => X_X0_readOrigin G (fun w18 s17 => (bz w18 ∧ Q w18 s17)) 7 w σ) (fun Q σ => OrM G n Q σ) (CPost κ0 ρ0 sd B z T lo n nw) κ ρ := by
  have hL := hG.1
  have hM := hG.2.2.2
  obtain ⟨⟨hC, hm⟩, ⟨hTC, hTM⟩, -, h71, hs⟩ := id hP
  have hz := hTC.zz
  have hT := hG.s hs
  have n13 : (13 : Int32) = nI 13 := rfl
  have i70 : ∀ {κ ρ1 : Mem}, StC κ → mR (mg κ ρ1) 7 0 = 3 := fun {κ ρ1} hC => (mR_c (by decide) _).trans hC.1.2.2.2.2.2.2.2.2.2.2.2.2.2.1
  have g9 : gT G 3 = 9 := hL.1.2.2.2.1
  have g1 : gT G 7 = 1 := hL.1.2.2.2.2.2.2.2.2.2.2.1
  obtain ⟨hw, v5, v8, v4⟩ := id hH
  by_cases a1 : twd B z (pos B z i) = nI 1
  · have hi : i < T := hTC.lt (by rw [((twd_k (by decide)).mp a1).1]; decide)
    obtain ⟨ρ2, r2, s2, e2, t2⟩ := m_adv hM hm hTC hTM hi
    have hP2 := hP.ps hi s2 e2 t2
    have hR2 : DRf sd n nw mc rt hc ow tb (psC κ i) ρ2 := hR.av hs e2
    have hH2 := hH.fr e2
    obtain ⟨⟨hC2, hm2⟩, ⟨hTC2, hTM2⟩, -, h712, -⟩ := id hP2
    obtain ⟨hB, hN, ⟨q1, q2, q3⟩, q4, q5⟩ := id hR2
    have goC : ∀ ρ1 (Q : Int32 → Mem → Prop), X_X8_isName G (fun w17 s16 => ((w17 = 0 → gT G (mR s16 7 0) = 9 ∧ X_X8_misplaced G (fun w31 s30 => (bz w31 ∧ Q w31 s30)) (mR s16 7 0) s16) ∧ (¬ w17 = 0 → gT G (mR s16 7 0) = 9 ∧ X_X8_word G (fun w20 s19 => gT G (mR s16 7 1) = 7 ∧ X_X6_classNamed G (fun w23 s22 => ((w23 = (-1 : Int32) → gT G (mR s22 7 0) = 9 ∧ X_X8_refuse G (fun w28 s27 => (bz w28 ∧ Q w28 s27)) (mR s22 7 0) (3 : Int32) s22) ∧ (¬ w23 = (-1 : Int32) → gT G (mR s22 7 0) = 9 ∧ X_X8_pass G (fun s25 => X_X0_readOrigin_115 G Q 7 w w23 (0 : Int32) s25) (mR s22 7 0) s22))) (mR s16 7 1) w20 s19) (mR s16 7 0) s16))) 3 (mg (psC κ i) ρ1) → X_X0_readOrigin G Q 7 w (mg κ ρ1) := fun ρ1 Q hh => by
      unfold X_X0_readOrigin X_X0_readOrigin_0
      rw [i70 hC]
      refine ⟨g1, g9, c_takes1 hL hC hTC (aK a1 (by decide) rfl) (br1 ?_)⟩
      rw [i70 hC2]
      exact ⟨g9, hh⟩
    have goM : ∀ κ1 (Q : Int32 → Mem → Prop), X_X12_isName G (fun w33 s32 => ((w33 = 0 → X_X12_wrong G (fun w50 s49 => (bz w50 ∧ Q w50 s49)) 1282 s32) ∧ (¬ w33 = 0 → X_X12_classNamed G (fun w35 s34 => ((0 ≤ w35 → gT G (mR s34 1282 4) = 100 ∧ vp_in (nI (13 + n)) (gL G (mR s34 1282 4)) ∧ ∀ s38, s38 = sI s34 (mR s34 1282 4) (nI (13 + n)).toNatClampNeg w35 → gT G (mR s38 1282 5) = 100 ∧ vp_in ((13 : Int32) + w35) (gL G (mR s38 1282 5)) ∧ vp_in (nI (13 + n)) (gL G (mR s38 1282 5)) ∧ ∀ s42, s42 = sI s38 (mR s38 1282 5) (nI (13 + n)).toNatClampNeg (mI s38 (mR s38 1282 5) ((13 : Int32) + w35).toNatClampNeg) → gT G (mR s42 1282 6) = 100 ∧ vp_in ((13 : Int32) + w35) (gL G (mR s42 1282 6)) ∧ vp_in (nI (13 + n)) (gL G (mR s42 1282 6)) ∧ ∀ s46, s46 = sI s42 (mR s42 1282 6) (nI (13 + n)).toNatClampNeg (mI s42 (mR s42 1282 6) ((13 : Int32) + w35).toNatClampNeg) → X_X12_readClass_188 G Q 1282 (nI (13 + n)) w35 (0 : Int32) s46) ∧ (¬ 0 ≤ w35 → X_X12_fails G (fun w48 s47 => (bz w48 ∧ Q w48 s47)) 1282 (3 : Int32) s34))) 1282 (13 : Int32) (mI s32 1282 56) (mJ s32 1282 52) s32))) 1282 (mg κ1 ρ2) → OrM G n Q (mg κ1 ρ) := fun κ1 Q hh => m_toldWord hM hTM (brT a1 (r2 κ1 _ hh))
    by_cases hn2 : nmT B z (pos B z (i + 1))
    · have hi1 : i + 1 < T := hTC2.lt (by rw [hn2.1]; decide)
      have hw2 := wd_rel hTM2.lo hn2.1
      have hwd : ∀ m, m < n → (mJ (psC κ i) (sd + 4 + 5 * m) 0 = wdx B z (pos B z (i + 1)) ↔ mJ ρ2 1284 (13 + m) = wdy B z (pos B z (i + 1))) := fun m hm => ((hB.1 m hm).1.1).iff hw2
      have e52 : mJ ρ2 1282 52 = wdy B z (pos B z (i + 1)) := hTM2.2.2.2.2.1 hn2.1
      by_cases hd : ∃ m, m < n ∧ mJ (psC κ i) (sd + 4 + 5 * m) 0 = wdx B z (pos B z (i + 1))
      · obtain ⟨p, m1, m2, m3⟩ := fst_lt hd
        have lp := (hB.2.1.2 p m1).2.1
        obtain ⟨ρa, ea⟩ : ∃ ρa, ρa = sI (sI (sI ρ2 1285 (13 + n) (nI p)) 1286 (13 + n) (mI ρ2 1286 (13 + p))) 1287 (13 + n) (nI (mc p)) := ⟨_, rfl⟩
        have hma : StM ρa := by subst ea; exact ((hm2.wI _ _ _).wI _ _ _).wI _ _ _
        have e87 : mI ρa 1287 (13 + n) = nI (mc p) := by subst ea; exact I_is _ _ _ _
        have frA : Eqv (fun a k => ¬ (1285 ≤ a ∧ a ≤ 1287 ∧ k = 13 + n)) ρ2 ρa := by
          subst ea
          refine ((Eqv.wI ?_ _).sI ?_ _).sI ?_ _
          all_goals exact fun h => h (by omega)
        obtain ⟨ρb, hmb, frB, inh, runB⟩ := m_inherit (p := p) hM hma hn m1 e87 lp
        have frM : Eqv (fun a k => ¬ (1285 ≤ a ∧ a ≤ 1287 ∧ k = 13 + n ∨ 1289 ≤ a ∧ a ≤ 1296 ∧ 16 * (13 + n) ≤ k ∧ k < 16 * (13 + n) + 16)) ρ2 ρb := (frA.mo fun a k (hh : ¬ (1285 ≤ a ∧ a ≤ 1287 ∧ k = 13 + n ∨ 1289 ≤ a ∧ a ≤ 1296 ∧ 16 * (13 + n) ≤ k ∧ k < 16 * (13 + n) + 16)) => by omega).tr (frB.mo fun a k (hh : ¬ (1285 ≤ a ∧ a ≤ 1287 ∧ k = 13 + n ∨ 1289 ≤ a ∧ a ≤ 1296 ∧ 16 * (13 + n) ≤ k ∧ k < 16 * (13 + n) + 16)) => by omega)
        have hPb : PS κ0 ρ0 sd B z T (psC κ i) ρb (i + 1) := hP2.fr hC2 hmb Eqv.rf (frM.mo fun a k hh => by unfold drM upM at hh; omega)
        have hRb : DRf sd n nw mc rt hc ow tb (psC κ i) ρb := by
          refine hR2.frM (frM.mo fun a k hh => ?_)
          rcases hh with (⟨c', hc', hh | ⟨hh1, hh2, m, hm, hh⟩ | ⟨hh1, hh2, m, hm, hh⟩⟩ | hh) | hh | hh
          · omega
          · have := hB.2.1.2 c' hc'; omega
          · omega
          · omega
          · omega
          · omega
        have hHb : PHd n mc w ρb (nI p) 0 := by
          obtain ⟨x1, x2, x3, x4⟩ := hH2
          have sv : ∀ a k, 1289 ≤ a → k < 16 * (13 + n) → mI ρb a k = mI ρa a k := fun a k h1 h2 => frB.I (by omega)
          have svJ : ∀ a k, 1289 ≤ a → k < 16 * (13 + n) → mJ ρb a k = mJ ρa a k := fun a k h1 h2 => frB.J (by omega)
          refine ⟨?_, ?_, ?_, Or.inr ⟨p, m1, rfl, ?_, ?_, fun m hm => ?_⟩⟩
          · rw [frM.J (by omega)]; exact x1
          · rw [frB.I (by omega)]; subst ea; simp (disch := omega) only [I_is, I_cl, I_sl, J_is, J_cl, J_sl, R_is, R_cl, R_sl, mI_sJ, mI_sR, mJ_sI, mJ_sR, mR_sI, mR_sJ]
          · rw [frM.I (by omega)]; exact x3
          · rw [frB.I (by omega), frB.I (by omega)]; subst ea; simp (disch := omega) only [I_is, I_cl, I_sl, J_is, J_cl, J_sl, R_is, R_cl, R_sl, mI_sJ, mI_sR, mJ_sI, mJ_sR, mR_sI, mR_sJ]
          · rw [frB.I (by omega)]; exact e87
          · have := inh m hm
            rw [svJ 1289 (16 * (13 + p) + m) (by decide) (by omega), sv 1290 (16 * (13 + p) + m) (by decide) (by omega), sv 1292 (16 * (13 + p) + m) (by decide) (by omega), sv 1293 (16 * (13 + p) + m) (by decide) (by omega), sv 1294 (16 * (13 + p) + m) (by decide) (by omega), sv 1296 (16 * (13 + p) + m) (by decide) (by omega)]
            exact this
        obtain ⟨-, ⟨hTCb, hTMb⟩, -⟩ := id hPb
        obtain ⟨ρ3, r3, s3, e3, t3⟩ := m_adv hM hmb hTCb hTMb hi1
        have hP3 := hPb.ps hi1 s3 e3 t3
        refine Jh.stp (fun ρ1 Q hq => goC ρ1 _ ?_) (fun κ1 Q hq => goM κ1 Q ?_) (j_open hG hP3 (hRb.av hs e3) hn (hHb.fr e3) (by omega : lo ≤ i + 1 + 1))
        · refine c_isName1 hL hC2 hTC2 hn2 (br1 ?_)
          rw [i70 hC2]
          refine ⟨g9, c_word hL hC2 hTC2 hn2.1 ?_⟩
          rw [mR_c (by decide), h712]
          refine ⟨hT.1.1, c_classNamed1 hG hC2 hs q1 (by omega) m1 m2 m3 (brF (mI1 (by omega)) ?_)⟩
          rw [i70 hC2]
          exact ⟨g9, c_pass hL hC2 hTC2 hi1 hq⟩
        · refine m_isName1 hM hTM2 hn2 (br1 ?_)
          rw [mJ_m (by decide), mI_m (by decide), e52, q4]
          refine m_classNamed1 (b := 13) hM hm2 (by omega) (by omega) m1 ((hwd p m1).mp m2) (fun j hj e => m3 j hj ((hwd j (by omega)).mpr e)) (brT (rng_nI (by omega)) ?_)
          have hm := hm2
          simp (disch := omega) only [mI_m, mR_m, mJ_m, sI_m, sJ_m, hM.1, hM.2, hm.1, hm.2, lT, lF, tT, tF, eF, pF, zT, m1F, vT, cI, true_and, and_true, true_implies, false_implies, not_false_eq_true, not_true_eq_false, forall_eq, implies_true, I_is, I_cl, I_sl, J_is, J_cl, J_sl, R_is, R_cl, R_sl, mI_sJ, mI_sR, mJ_sI, mJ_sR, mR_sI, mR_sJ, n13, nI_add, (hN p m1).1.2]
          rw [← ea]
          exact runB κ1 Q (r3 κ1 _ hq)
      · have hd : ∀ m, m < n → mJ (psC κ i) (sd + 4 + 5 * m) 0 ≠ wdx B z (pos B z (i + 1)) := fun m hm e => hd ⟨m, hm, e⟩
        refine Jh.fail (fun ρ1 Q hQ => goC ρ1 _ ?_) (fun κ1 Q hQ => goM κ1 Q ?_) (hP2.fail 3 (p := pos B z (i + 1)))
        · refine c_isName1 hL hC2 hTC2 hn2 (br1 ?_)
          rw [i70 hC2]
          refine ⟨g9, c_word hL hC2 hTC2 hn2.1 ?_⟩
          rw [mR_c (by decide), h712]
          refine ⟨hT.1.1, c_classNamed0 hG hC2 hs q1 (by omega) hd (brT rfl ?_)⟩
          rw [i70 hC2]
          exact ⟨g9, c_refuse hL hC2 hTC2 ⟨bz0, bz0, hQ⟩⟩
        · refine m_isName1 hM hTM2 hn2 (br1 ?_)
          rw [mJ_m (by decide), mI_m (by decide), e52, q4]
          exact m_classNamed0 (b := 13) hM hm2 (by omega) (by omega) (fun j hj e => hd j hj ((hwd j hj).mpr e)) (brF (by decide) (m_fails hM hTM2 ⟨bz0, hQ⟩))
    · refine Jh.fail (fun ρ1 Q hQ => goC ρ1 _ (c_isName0 hL hC2 hTC2 hn2 (br0 ?_))) (fun κ1 Q hQ => goM κ1 Q (m_isName0 hM hTM2 hn2 (br0 (m_wrong hM hTM2 ⟨bz0, hQ⟩)))) (hP2.fail (flt B z (pos B z (i + 1))) (p := pos B z (i + 1)))
      rw [i70 hC2]
      exact ⟨g9, c_misplaced hL hC2 hTC2 ⟨bz0, bz0, hQ⟩⟩
  · by_cases a2 : twd B z (pos B z i) = nI 2
    · have hi : i < T := hTC.lt (by rw [((twd_k (by decide)).mp a2).1]; decide)
      obtain ⟨ρ2, r2, s2, e2, t2⟩ := m_adv hM hm hTC hTM hi
      have hP2 := hP.ps hi s2 e2 t2
      have hR2 : DRf sd n nw mc rt hc ow tb (psC κ i) ρ2 := hR.av hs e2
      have hH2 := hH.fr e2
      obtain ⟨⟨hC2, hm2⟩, ⟨hTC2, hTM2⟩, -, h712, -⟩ := id hP2
      obtain ⟨hB, hN, ⟨q1, q2, q3⟩, q4, q5⟩ := id hR2
      have goC : ∀ ρ1 (Q : Int32 → Mem → Prop), X_X0_wayNow G (fun w9 s8 => ((w9 = (-1 : Int32) → gT G (mR s8 7 0) = 9 ∧ X_X8_misplaced G (fun w14 s13 => (bz w14 ∧ Q w14 s13)) (mR s8 7 0) s8) ∧ (¬ w9 = (-1 : Int32) → gT G (mR s8 7 0) = 9 ∧ X_X8_pass G (fun s11 => X_X0_readOrigin_115 G Q 7 w (-1 : Int32) w9 s11) (mR s8 7 0) s8))) 7 (mg (psC κ i) ρ1) → X_X0_readOrigin G Q 7 w (mg κ ρ1) := fun ρ1 Q hh => by
        unfold X_X0_readOrigin X_X0_readOrigin_0
        rw [i70 hC]
        refine ⟨g1, g9, c_takes0 hL hC hTC (nK a1 (by decide) rfl) (br0 ?_)⟩
        rw [i70 hC]
        exact ⟨g9, c_takes1 hL hC hTC (aK a2 (by decide) rfl) (br1 hh)⟩
      have goM : ∀ κ1 (Q : Int32 → Mem → Prop), (((twd B z (pos B z (i + 1))) = (3 : Int32) → X_X12_readClass_258 G Q 1282 (nI (13 + n)) (twd B z (pos B z (i + 1))) (mg κ1 ρ2)) ∧ (¬ (twd B z (pos B z (i + 1))) = (3 : Int32) → (((twd B z (pos B z (i + 1))) = (4 : Int32) → X_X12_readClass_258 G Q 1282 (nI (13 + n)) (twd B z (pos B z (i + 1))) (mg κ1 ρ2)) ∧ (¬ (twd B z (pos B z (i + 1))) = (4 : Int32) → (((twd B z (pos B z (i + 1))) = (5 : Int32) → X_X12_readClass_258 G Q 1282 (nI (13 + n)) (twd B z (pos B z (i + 1))) (mg κ1 ρ2)) ∧ (¬ (twd B z (pos B z (i + 1))) = (5 : Int32) → X_X12_wrong G (fun w30 s29 => (bz w30 ∧ Q w30 s29)) 1282 (mg κ1 ρ2))))))) → OrM G n Q (mg κ1 ρ) := fun κ1 Q hh => m_toldWord hM hTM (brF a1 (m_toldWord hM hTM (brT a2 (r2 κ1 _ (m_toldWord hM hTM2 hh)))))
      -- one of the three ways
      have way : ∀ q : Nat, q < 3 → twd B z (pos B z (i + 1)) = nI (3 + q) → (∀ ρ1 (Q : Int32 → Mem → Prop), Q (nI q) (mg (psC κ i) ρ1) → X_X0_wayNow G Q 7 (mg (psC κ i) ρ1)) → (∀ κ1 (Q : Int32 → Mem → Prop), X_X12_readClass_258 G Q 1282 (nI (13 + n)) (nI (3 + q)) (mg κ1 ρ2) → OrM G n Q (mg κ1 ρ)) → Jh G κ0 ρ0 sd n (fun Q σ => X_X0_readOrigin G (fun w18 s17 => (bz w18 ∧ Q w18 s17)) 7 w σ) (fun Q σ => OrM G n Q σ) (CPost κ0 ρ0 sd B z T lo n nw) κ ρ := fun q hq ew wC wM => by
        have hi1 : i + 1 < T := hTC2.lt (by rw [((twd_k (by omega)).mp ew).1]; decide)
        have hPb : PS κ0 ρ0 sd B z T (psC κ i) (sI ρ2 1286 (13 + n) (nI q)) (i + 1) := hP2.fr hC2 (hm2.wI _ _ _) Eqv.rf (Eqv.wI (fun h => h (Or.inr (by unfold upM; omega))) _)
        have hRb : DRf sd n nw mc rt hc ow tb (psC κ i) (sI ρ2 1286 (13 + n) (nI q)) := by
          refine hR2.frM (Eqv.wI ?_ _)
          rintro ((⟨c', hc', hh | ⟨hh1, hh2, m, hm, hh⟩ | ⟨hh1, hh2, m, hm, hh⟩⟩ | hh) | hh | hh) <;> omega
        have hHb : PHd n mc w (sI ρ2 1286 (13 + n) (nI q)) (-1) (nI q) := by
          obtain ⟨x1, x2, x3, x4⟩ := hH2
          rcases x4 with ⟨-, y2, y3, y4⟩ | ⟨p, p1, p2, -⟩
          · refine ⟨x1, ?_, ?_, Or.inl ⟨rfl, I_is _ _ _ _, ?_, ?_⟩⟩
            · rw [I_cl (by decide)]; exact x2
            · rw [I_cl (by decide)]; exact x3
            · rcases (by omega : q = 0 ∨ q = 1 ∨ q = 2) with rfl | rfl | rfl
              · exact Or.inl rfl
              · exact Or.inr (Or.inl rfl)
              · exact Or.inr (Or.inr rfl)
            · rw [I_cl (by decide)]; exact y4
          · exact absurd p2.symm (mI1 (by omega))
        obtain ⟨⟨-, hmb⟩, ⟨hTCb, hTMb⟩, -⟩ := id hPb
        obtain ⟨ρ3, r3, s3, e3, t3⟩ := m_adv hM hmb hTCb hTMb hi1
        have hP3 := hPb.ps hi1 s3 e3 t3
        refine Jh.stp (fun ρ1 Q hq2 => goC ρ1 _ (wC ρ1 _ (brF (mI1 (by omega)) ?_))) (fun κ1 Q hq2 => wM κ1 Q ?_) (j_open hG hP3 (hRb.av hs e3) hn (hHb.fr e3) (by omega : lo ≤ i + 1 + 1))
        · rw [i70 hC2]
          exact ⟨g9, c_pass hL hC2 hTC2 hi1 hq2⟩
        · have hm := hm2
          have n3 : (3 : Int32) = nI 3 := rfl
          simp (disch := omega) only [X_X12_readClass_258, mI_m, mR_m, mJ_m, sI_m, sJ_m, hM.1, hM.2, hm.1, hm.2, lT, lF, tT, tF, eF, pF, zT, m1F, vT, cI, true_and, and_true, true_implies, false_implies, not_false_eq_true, not_true_eq_false, forall_eq, implies_true, I_is, I_cl, I_sl, J_is, J_cl, J_sl, R_is, R_cl, R_sl, mI_sJ, mI_sR, mJ_sI, mJ_sR, mR_sI, mR_sJ, n3, pk_sub]
          rw [show 3 + q - 3 = q by omega]
          exact r3 κ1 _ hq2
      by_cases b3 : twd B z (pos B z (i + 1)) = nI 3
      · refine way 0 (by decide) b3 (fun ρ1 Q hQ => ?_) (fun κ1 Q hQ => goM κ1 Q (brT b3 (by rw [b3]; exact hQ)))
        unfold X_X0_wayNow X_X0_wayNow_0
        rw [i70 hC2]
        exact ⟨g1, g9, c_isAt1 hL hC2 hTC2 (aK b3 (by decide) rfl) (br1 hQ)⟩
      · by_cases b4 : twd B z (pos B z (i + 1)) = nI 4
        · refine way 1 (by decide) b4 (fun ρ1 Q hQ => ?_) (fun κ1 Q hQ => goM κ1 Q (brF b3 (brT b4 (by rw [b4]; exact hQ))))
          unfold X_X0_wayNow X_X0_wayNow_0
          rw [i70 hC2]
          refine ⟨g1, g9, c_isAt0 hL hC2 hTC2 (nK b3 (by decide) rfl) (br0 ?_)⟩
          rw [i70 hC2]
          exact ⟨g9, c_isAt1 hL hC2 hTC2 (aK b4 (by decide) rfl) (br1 hQ)⟩
        · by_cases b5 : twd B z (pos B z (i + 1)) = nI 5
          · refine way 2 (by decide) b5 (fun ρ1 Q hQ => ?_) (fun κ1 Q hQ => goM κ1 Q (brF b3 (brF b4 (brT b5 (by rw [b5]; exact hQ)))))
            unfold X_X0_wayNow X_X0_wayNow_0
            rw [i70 hC2]
            refine ⟨g1, g9, c_isAt0 hL hC2 hTC2 (nK b3 (by decide) rfl) (br0 ?_)⟩
            rw [i70 hC2]
            refine ⟨g9, c_isAt0 hL hC2 hTC2 (nK b4 (by decide) rfl) (br0 ?_)⟩
            rw [i70 hC2]
            exact ⟨g9, c_isAt1 hL hC2 hTC2 (aK b5 (by decide) rfl) (br1 hQ)⟩
          · refine Jh.fail (fun ρ1 Q hQ => goC ρ1 _ ?_) (fun κ1 Q hQ => goM κ1 Q (brF b3 (brF b4 (brF b5 (m_wrong hM hTM2 ⟨bz0, hQ⟩))))) (hP2.fail (flt B z (pos B z (i + 1))) (p := pos B z (i + 1)))
            unfold X_X0_wayNow X_X0_wayNow_0
            rw [i70 hC2]
            refine ⟨g1, g9, c_isAt0 hL hC2 hTC2 (nK b3 (by decide) rfl) (br0 ?_)⟩
            rw [i70 hC2]
            refine ⟨g9, c_isAt0 hL hC2 hTC2 (nK b4 (by decide) rfl) (br0 ?_)⟩
            rw [i70 hC2]
            refine ⟨g9, c_isAt0 hL hC2 hTC2 (nK b5 (by decide) rfl) (br0 (brT rfl ?_))⟩
            rw [i70 hC2]
            exact ⟨g9, c_misplaced hL hC2 hTC2 ⟨bz0, bz0, hQ⟩⟩
    · refine Jh.stp (fun ρ1 Q hq => ?_) (fun κ1 Q hq => m_toldWord hM hTM (brF a1 (m_toldWord hM hTM (brF a2 hq)))) (j_open hG hP hR hn hH hlo)
      show X_X0_readOrigin_0 G _ 7 w (mg κ ρ1)
      unfold X_X0_readOrigin_0
      rw [i70 hC]
      refine ⟨g1, g9, c_takes0 hL hC hTC (nK a1 (by decide) rfl) (br0 ?_)⟩
      rw [i70 hC]
      exact ⟨g9, c_takes0 hL hC hTC (nK a2 (by decide) rfl) (br0 hq)⟩
end CLS
