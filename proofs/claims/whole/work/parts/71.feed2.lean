def ws5 (a b c d e : Int32) (j : Nat) : Int32 := if j < 4 then a else if j < 8 then b else if j < 12 then c else if j < 16 then d else e
section FEED2
variable {G : Lay} {nn nn' sc n r0 : Nat} {mc rt hc K K' N us : Nat → Nat} {κ κ' ρ ρ' κ1 ρ1 : Mem} {u k : Nat}
theorem m_feed (hM : LyM G) (hm : StM ρ) {z : Nat} (hz : z + 20 ≤ 3000) (ez : mI ρ 1282 1 = nI z) (a b c d e : Int32) : RunM (fun Q σ => X_X12_feed G Q 1282 a b c d e σ) ρ (nI (z + 20)) (sI (sF ρ 1283 z (z + 20) (fun k => yv (ws5 a b c d e (k - z)) ((k - z) % 4) &&& 255)) 1282 1 (nI (z + 20))) := by
  intro κ1 Q hQ
  simp (disch := omega) only [X_X12_feed_71, X_X12_feed_0, X_X12_feed, X_X12_feed_18, mI_m, mR_m, mJ_m, sI_m, sJ_m, hM.1, hM.2, hm.1, hm.2, nls, lT, lF, tT, tF, eF, pF, zT, e0F, m1F, vT, cI, nI_1, nI_add, pk_mul, true_and, and_true, true_implies, false_implies, not_false_eq_true, not_true_eq_false, bzT1, bzT0, m10, m1z, o0F, forall_eq, implies_true, if_true, if_false, ez]
  refine Lw.nat 20 (fun i y => y = (nI i, mg κ1 (sF ρ 1283 z (z + i) (fun k => yv (ws5 a b c d e (k - z)) ((k - z) % 4) &&& 255)))) ?_ 0 (by omega) _ (by simp only [Nat.add_zero, sF_0]; rfl)
  rintro K' i y hi rfl hk'
  have hst : ∀ v : Int32, v = ws5 a b c d e i → X_X12_feed_71 G Q K' 1282 a b c d e (nI i) v (mg κ1 (sF ρ 1283 z (z + i) (fun k => yv (ws5 a b c d e (k - z)) ((k - z) % 4) &&& 255))) ∨ ¬ i < 20 := by
    intro v ev
    by_cases h : i < 20
    · left
      have e4 : i - i / 4 * 4 = i % 4 := by omega
      simp (disch := omega) only [X_X12_feed_71, mI_m, mR_m, mJ_m, sI_m, sJ_m, hM.1, hM.2, hm.1, hm.2, nls, lT, lF, tT, tF, eF, pF, zT, e0F, m1F, vT, cI, nI_1, nI_add, pk_mul, true_and, and_true, true_implies, false_implies, not_false_eq_true, not_true_eq_false, bzT1, bzT0, m10, m1z, o0F, forall_eq, implies_true, if_true, if_false, I_is, I_cl, I_sl, J_is, J_cl, J_sl, R_is, R_cl, R_sl, mI_sJ, mI_sR, mJ_sI, mJ_sR, mR_sI, mR_sJ, sF_R, sF_cl, ez, dI, pk_sub, e4, show (24 : Int32) = nI 24 from rfl]
      refine hk' _ h ?_
      rw [sF_st (by omega)]
      · rfl
      · show _ = yv (ws5 a b c d e (z + i - z)) ((z + i - z) % 4) &&& 255
        rw [show z + i - z = i by omega, ev]
        rfl
    · exact Or.inr h
  by_cases h : i < 20
  · have w : ∀ v, v = ws5 a b c d e i → X_X12_feed_71 G Q K' 1282 a b c d e (nI i) v (mg κ1 (sF ρ 1283 z (z + i) (fun k => yv (ws5 a b c d e (k - z)) ((k - z) % 4) &&& 255))) := fun v ev => (hst v ev).resolve_right (fun x => x h)
    simp (disch := omega) only [X_X12_feed_18_s, nls, lF, lI, not_false_eq_true, true_implies, false_implies, true_and]
    refine ⟨fun h4 => ⟨fun h8 => ⟨fun h12 => ⟨fun h16 => w _ ?_, fun h16 => w _ ?_⟩, fun h12 => w _ ?_⟩, fun h8 => w _ ?_⟩, fun h4 => w _ ?_⟩ <;> unfold ws5
    · rw [if_neg (by omega), if_neg (by omega), if_neg (by omega), if_neg (by omega)]
    · rw [if_neg (by omega), if_neg (by omega), if_neg (by omega), if_pos (by omega)]
    · rw [if_neg (by omega), if_neg (by omega), if_pos (by omega)]
    · rw [if_neg (by omega), if_pos (by omega)]
    · rw [if_pos (by omega)]
  · obtain rfl : i = 20 := by omega
    simp (disch := omega) only [X_X12_feed_18_s, mI_m, mR_m, mJ_m, sI_m, sJ_m, hM.1, hM.2, hm.1, hm.2, nls, lT, lF, tT, tF, eF, pF, zT, e0F, m1F, vT, cI, nI_1, nI_add, pk_mul, true_and, and_true, true_implies, false_implies, not_false_eq_true, not_true_eq_false, bzT1, bzT0, m10, m1z, o0F, forall_eq, implies_true, if_true, if_false, I_is, I_cl, I_sl, J_is, J_cl, J_sl, R_is, R_cl, R_sl, mI_sJ, mI_sR, mJ_sI, mJ_sR, mR_sI, mR_sJ, sF_cl, ez]
    exact hQ
theorem j_feed (hG : Ly G) (h : Rel nn κ ρ) (a b c d e : Int32) : Jt nn (fun Q σ => X_X11_feed G Q 1 a b c d e σ) (fun Q σ => X_X12_feed G Q 1282 a b c d e σ) κ ρ := by
  have h0 := h
  obtain ⟨sc, n, mc, rt, hc, K, N, r0, us, hA⟩ := h
  obtain ⟨⟨hC, hm, -⟩, ⟨z, t1, t2, t3, t4⟩, hF, hS, -⟩ := id hA
  have hL := hG.1
  have hM := hG.2.2.2
  have hs2 := hS.s2
  by_cases hz : z + 20 ≤ 3000
  · obtain ⟨k1, a0, a1, a2, a3, a4⟩ := c_feedNumber hL hC (z := z) (by omega) t2 a
    obtain ⟨k2, b0, b1, b2, b3, b4⟩ := c_feedNumber hL a1 (z := z + 4) (by omega) a2 b
    obtain ⟨k3, c0, c1, c2, c3, c4⟩ := c_feedNumber hL b1 (z := z + 4 + 4) (by omega) b2 c
    obtain ⟨k4, d0, d1, d2, d3, d4⟩ := c_feedNumber hL c1 (z := z + 4 + 4 + 4) (by omega) c2 d
    obtain ⟨k5, e0, e1, e2, e3, e4⟩ := c_feedNumber hL d1 (z := z + 4 + 4 + 4 + 4) (by omega) d2 e
    have all : Eqv (fun q j => ¬ (q = 1 ∧ j = 1 ∨ q = 2 ∧ z ≤ j)) κ k5 := (((((a4.mo fun q j w => ?_).tr (b4.mo fun q j w => ?_)).tr (c4.mo fun q j w => ?_)).tr (d4.mo fun q j w => ?_)).tr (e4.mo fun q j w => ?_))
    rotate_left
    iterate 5 (exact fun x => w (by omega))
    refine ⟨nI (z + 20), k5, _, fun ρ1 Q hQ => ?_, m_feed hM hm hz t3 a b c d e, sc, n, mc, rt, hc, K, N, r0, us, hA.fr_T e1 ((hm.wF _ _ _ _).wI _ _ _) (all.mo fun q j w => ?_) (((Eqv.rf.sF fun j j1 j2 => ?_).sI ?_ _)) (Nat.le_succ _) ⟨z + 20, hz, e2, I_is _ _ _ _, fun j hj => ?_⟩⟩
    · simp (disch := omega) only [X_X11_feed_0, X_X11_feed, mI_c, mR_c, mJ_c, sI_c, sJ_c, sR_c, hL.1, hL.2.1, hL.2.2, hC.1, hC.2.1, hC.2.2.1, nls, lT, lF, tT, tF, eF, pF, zT, e0F, m1F, vT, cI, nI_1, nI_add, pk_mul, true_and, and_true, true_implies, false_implies, not_false_eq_true, not_true_eq_false, bzT1, bzT0, m10, m1z, o0F, forall_eq, implies_true, if_true, if_false, t2, show (20 : Int32) = nI 20 from rfl]
      refine a0 _ _ (b0 _ _ (c0 _ _ (d0 _ _ (e0 _ _ ?_))))
      simp (disch := omega) only [mI_c, e2]
      exact hQ
    · rintro (⟨rfl, rfl⟩ | ⟨rfl, hx⟩)
      · exact absurd w (by
    intro hh
    rcases hh with hh | hh | hh | hh | hh | hh | hh | hh
    all_goals first | (obtain ⟨u', hu', hh | ⟨j', hj', hh⟩⟩ := hh <;> omega) | (obtain ⟨u', j', hu', hj', e1', e2'⟩ := hh <;> omega) | (simp only [tC, fC, sCc, kC, rC, wC, dC, tM, fM, sM, kM, rM, uM, wM, dM] at hh; omega))
      · exact absurd w (by
    intro hh
    rcases hh with hh | hh | hh | hh | hh | hh | hh | hh
    all_goals first | (obtain ⟨u', hu', hh | ⟨j', hj', hh⟩⟩ := hh <;> omega) | (obtain ⟨u', j', hu', hj', e1', e2'⟩ := hh <;> omega) | (simp only [tC, fC, sCc, kC, rC, wC, dC, tM, fM, sM, kM, rM, uM, wM, dM] at hh; omega))
    · exact (by
    intro hh
    rcases hh with hh | hh | hh | hh | hh | hh | hh
    all_goals first | (obtain ⟨u', hu', hh | ⟨j', hj', hh⟩⟩ := hh <;> omega) | (obtain ⟨u', j', hu', hj', e1', e2'⟩ := hh <;> omega) | (simp only [tC, fC, sCc, kC, rC, wC, dC, tM, fM, sM, kM, rM, uM, wM, dM] at hh; omega))
    · exact (by
    intro hh
    rcases hh with hh | hh | hh | hh | hh | hh | hh
    all_goals first | (obtain ⟨u', hu', hh | ⟨j', hj', hh⟩⟩ := hh <;> omega) | (obtain ⟨u', j', hu', hj', e1', e2'⟩ := hh <;> omega) | (simp only [tC, fC, sCc, kC, rC, wC, dC, tM, fM, sM, kM, rM, uM, wM, dM] at hh; omega))
    · rw [I_cl (by decide)]
      by_cases hjz : j < z
      · obtain ⟨b', w1, w2, w3⟩ := t4 j hjz
        refine ⟨b', w1, ?_, ?_⟩
        · rw [sF_out (Or.inl hjz)]; exact w2
        · rw [all.I (by omega)]; exact w3
      · rw [sF_in (by omega) (by omega)]
        obtain ⟨b', w1, w2, w3⟩ := byte_ex (yv (ws5 a b c d e (j - z)) ((j - z) % 4))
        refine ⟨b', w1, w2, ?_⟩
        rw [← w3]
        obtain ⟨q, hq⟩ : ∃ q, q = j - z := ⟨_, rfl⟩
        rw [← hq]
        by_cases h4 : q < 4
        · rw [e4.I (by omega), d4.I (by omega), c4.I (by omega), b4.I (by omega), show j = z + q by omega, a3 q h4, Nat.mod_eq_of_lt h4]
          unfold ws5
          rw [if_pos h4]
        · by_cases h8 : q < 8
          · rw [e4.I (by omega), d4.I (by omega), c4.I (by omega), show j = z + 4 + (q - 4) by omega, b3 (q - 4) (by omega), show q % 4 = q - 4 by omega]
            unfold ws5
            rw [if_neg h4, if_pos h8]
          · by_cases h12 : q < 12
            · rw [e4.I (by omega), d4.I (by omega), show j = z + 4 + 4 + (q - 8) by omega, c3 (q - 8) (by omega), show q % 4 = q - 8 by omega]
              unfold ws5
              rw [if_neg h4, if_neg h8, if_pos h12]
            · by_cases h16 : q < 16
              · rw [e4.I (by omega), show j = z + 4 + 4 + 4 + (q - 12) by omega, d3 (q - 12) (by omega), show q % 4 = q - 12 by omega]
                unfold ws5
                rw [if_neg h4, if_neg h8, if_neg h12, if_pos h16]
              · rw [show j = z + 4 + 4 + 4 + 4 + (q - 16) by omega, e3 (q - 16) (by omega), show q % 4 = q - 16 by omega]
                unfold ws5
                rw [if_neg h4, if_neg h8, if_neg h12, if_neg h16]
  · refine ⟨-1, κ, ρ, fun ρ1 Q hQ => ?_, fun κ1 Q hQ => ?_, h0.up⟩
    · simp (disch := omega) only [X_X11_feed_0, X_X11_feed, mI_c, mR_c, mJ_c, sI_c, sJ_c, sR_c, hL.1, hL.2.1, hL.2.2, hC.1, hC.2.1, hC.2.2.1, nls, lT, lF, tT, tF, eF, pF, zT, e0F, m1F, vT, cI, nI_1, nI_add, pk_mul, true_and, and_true, true_implies, false_implies, not_false_eq_true, not_true_eq_false, bzT1, bzT0, m10, m1z, o0F, forall_eq, implies_true, if_true, if_false, t2, show (20 : Int32) = nI 20 from rfl]
      exact hQ
    · simp (disch := omega) only [X_X12_feed_71, X_X12_feed_0, X_X12_feed, mI_m, mR_m, mJ_m, sI_m, sJ_m, hM.1, hM.2, hm.1, hm.2, nls, lT, lF, tT, tF, eF, pF, zT, e0F, m1F, vT, cI, nI_1, nI_add, pk_mul, true_and, and_true, true_implies, false_implies, not_false_eq_true, not_true_eq_false, bzT1, bzT0, m10, m1z, o0F, forall_eq, implies_true, if_true, if_false, t3]
      exact hQ
end FEED2
