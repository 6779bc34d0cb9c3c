section DROP2
variable {G : Lay} {nn nn' sc n r0 : Nat} {mc rt hc K K' N us : Nat → Nat} {κ κ' ρ ρ' κ1 ρ1 : Mem} {u k : Nat} {cF : Nat} {fl : Nat → Nat}
/-- a key is followed, both sides -/
theorem j_fk (hG : Ly G) (hD : DR nn sc n mc rt hc K N r0 u us cF fl κ ρ) (hu : u < 4) {f x : Nat} (hf : f < 12) (hx1 : 1 ≤ x) (hxK : x ≤ K f) :
    (∃ us' cF' fl' κ' ρ', DR nn sc n mc rt hc K N r0 u us' cF' fl' κ' ρ' ∧ us u ≤ us' u ∧ cF ≤ cF' ∧ (∀ i, i < cF → fl' i = fl i) ∧ KeepD sc u us κ ρ κ' ρ' ∧ RunC (fun Q σ => X_X9_followKey G Q (533 + 184 * u) (nI f) (nI x) σ) κ 1 κ' ∧
      ∀ (κ1 : Mem) (Q : Int32 → Mem → Prop) (K30 K49 K198 : Int32 × Int32 × Mem → Prop) (l5 l6 l7 l8 l9 l10 : Int32), K198 (nI cF', l10 + 1, mg κ1 ρ') → X_X12_meet G (fun w9 s8 => ((0 ≤ w9 → X_X12_load G (fun s10 => X_X12_isLive G (fun w12 s11 => ((w12 = 0 → X_X12_drop_258 G Q K30 K49 K198 1282 (nI u) (nI cF) l5 l6 l7 l8 l9 l10 w9 (1 : Int32) s11) ∧ (¬ w12 = 0 → X_X12_drop_258 G Q K30 K49 K198 1282 (nI u) (nI cF) l5 l6 l7 l8 l9 l10 w9 (0 : Int32) s11))) 1282 w9 s10) 1282 w9 s8) ∧ (¬ 0 ≤ w9 → Q (-2 : Int32) s8))) 1282 (nI u) (nI f) (nI x) (mg κ1 ρ)) ∨
    (RunC (fun Q σ => X_X9_followKey G Q (533 + 184 * u) (nI f) (nI x) σ) κ 0 κ ∧ RunM (fun Q σ => X_X12_meet G Q 1282 (nI u) (nI f) (nI x) σ) ρ (-2) ρ) := by
  have hL := hG.1
  have hM := hG.2.2.2
  obtain ⟨hA, ho, d1, d2, d3, d4, d5⟩ := hD
  have hs2 := hA.2.2.2.1.s2
  rcases j_meetX hG hA hu ho hf hx1 hxK with ⟨k, us', κa, ρa, m1, m2, m3, m4, m5, m6, m7, m8, m9, m10, m11, m12, m13⟩ | ⟨m1, m6, m7⟩
  · obtain ⟨κb, ρb, l0, l1, hA2, s0, l2, l3, l4, l5, l6, l7⟩ := j_load hG m4 hu m5 m1
    have hob : mI ρb 1316 u = 1 := by rw [l3.I (by rintro ((h | h) | h) <;> omega)]; exact m5
    obtain ⟨⟨hC2, hm2, hNu2⟩, zT, zF, zS, zN, zK, zR, zU, zW, zD, zY, zZ⟩ := id hA2
    obtain ⟨o1, o2, o3, o4, o5⟩ := zU.op hu hob
    obtain ⟨o1', -⟩ := hA.2.2.2.2.2.2.2.1.op hu ho
    obtain ⟨t1, -⟩ := o5 k m1
    -- what stays
    have flg : ∀ j, j < us u → mI κb (537 + 184 * u + 3 * j) 8 = mI κ (537 + 184 * u + 3 * j) 8 := fun j hj => by
      rw [l2.I (by rintro ((h | h | h) | h) <;> omega)]
      by_cases e : k < us u
      · rw [(m12 e).1]
      · exact m10.I (by rintro ((h | h | h) | h | h | h) <;> omega)
    have flk : us u ≤ k → mI κb (537 + 184 * u + 3 * k) 8 = 0 := fun e => by
      obtain ⟨e1, e2, e3, -⟩ := m13 e
      rw [l2.I (by rintro ((h | h | h) | h) <;> omega), e1]
      exact e3
    have liv : ∀ j, j < us u → LiveS ρ (60 * u + j) → Eqv (thM (60 * u + j)) ρ ρb := fun j hj hl => by
      have ea : Eqv (thM (60 * u + j)) ρ ρa := by
        by_cases e : k < us u
        · rw [(m12 e).2.1]; exact Eqv.rf
        · exact m11.mo fun a q z => by rintro ((h | h) | h | h) <;> simp only [thM] at z <;> omega
      refine ea.tr ?_
      by_cases e : j = k
      · subst e
        have : mI ρa 1319 (60 * u + j) ≠ 0 := by
          rcases hl.fr ea with z | z <;> (rw [z]; decide)
        rw [(l7 this).2]
        exact Eqv.rf
      · exact l3.mo fun a q z => by rintro ((h | h) | h) <;> simp only [thM] at z <;> omega
    have keep : KeepD sc u us κ ρ κb ρb := by
      refine ⟨liv, fun i => ?_, fun i => ?_, ?_, ?_⟩
      · rw [l2.I (by rintro ((h | h | h) | h) <;> omega), m10.I (by rintro ((h | h | h) | h | h | h) <;> omega)]
      · rw [l3.I (by rintro ((h | h) | h) <;> omega), m11.I (by rintro ((h | h) | h | h) <;> omega)]
      · exact (m11.mo fun a q z => by rintro ((h | h) | h | h) <;> simp only [sM] at z <;> omega).tr (l3.mo fun a q z => by rintro ((h | h) | h) <;> simp only [sM] at z <;> omega)
      · exact (m10.mo fun a q z => by rintro ((h | h | h) | h | h | h) <;> simp only [sCc] at z <;> omega).tr (l2.mo fun a q z => by rintro ((h | h | h) | h) <;> simp only [sCc] at z <;> omega)
    have c7 : mI κb (533 + 184 * u) 7 = nI cF := by
      rw [l2.I (by rintro ((h | h | h) | h) <;> omega), m10.I (by rintro ((h | h | h) | h | h | h) <;> omega)]; exact d1
    have row : ∀ i, i < cF → fl i < us' u ∧ mR κb (535 + 184 * u) i = 537 + 184 * u + 3 * fl i ∧ mI ρb 1328 i = nI (60 * u + fl i) ∧ LiveS ρb (60 * u + fl i) := fun i hi => by
      obtain ⟨a1, a2, a3, a4⟩ := d2 i hi
      refine ⟨by omega, ?_, ?_, a4.fr (liv _ a1 a4)⟩
      · rw [l2.R (by rintro ((h | h | h) | h) <;> omega), m10.R (by rintro ((h | h | h) | h | h | h) <;> omega)]; exact a2
      · rw [l3.I (by rintro ((h | h) | h) <;> omega), m11.I (by rintro ((h | h) | h | h) <;> omega)]; exact a3
    have us1 : us' u = us u ∨ us' u = us u + 1 ∧ k = us u := by
      by_cases e : k < us u
      · rw [(m12 e).2.2]; exact Or.inl rfl
      · obtain ⟨e1, e2, -⟩ := m13 (by omega)
        rw [e2, usP_is]; exact Or.inr ⟨rfl, e1⟩
    have flags : ∀ j, j < us' u → mI κb (537 + 184 * u + 3 * j) 8 = 0 ∧ (∀ i, i < cF → fl i ≠ j) ∨ mI κb (537 + 184 * u + 3 * j) 8 = 1 ∧ ∃ i, i < cF ∧ fl i = j := fun j hj => by
      by_cases e : j < us u
      · rw [flg j e]; exact d4 j e
      · have ejk : j = k := by omega
        subst ejk
        exact Or.inl ⟨flk (by omega), fun i hi z => by have := (d2 i hi).1; omega⟩
    have cn : cF = cnt (fun q => mI κb (537 + 184 * u + 3 * q) 8) 1 (us' u) := by
      have a1 := cnt_cg (x := 1) (us u) (fun j hj => flg j hj)
      rcases us1 with e | ⟨e, ek⟩
      · rw [e]; exact d5.trans a1.symm
      · rw [e]
        show cF = cnt (fun q => mI κb (537 + 184 * u + 3 * q) 8) 1 (us u) + if mI κb (537 + 184 * u + 3 * us u) 8 = 1 then 1 else 0
        have z := flk (by omega)
        rw [ek] at z
        rw [z, if_neg (by decide), a1]
        exact d5
    have c60 : cF ≤ 60 := by
      by_cases e : cF < us' u
      · omega
      · have : ∀ m, cnt (fun q => mI κb (537 + 184 * u + 3 * q) 8) 1 m ≤ m := by
          intro m
          induction m with
          | zero => exact Nat.le_refl _
          | succ m ih =>
            show _ + (if _ then 1 else 0) ≤ m + 1
            by_cases e : mI κb (537 + 184 * u + 3 * m) 8 = 1
            · rw [if_pos e]; omega
            · rw [if_neg e]; omega
        have := this (us' u)
        omega
    have fl60 : ∀ i, i < cF → mI ρb 1328 i = nI (60 * u + fl i) ∧ fl i < 60 := fun i hi => ⟨(row i hi).2.2.1, by have := (row i hi).1; omega⟩
    by_cases hl : LiveS ρb (60 * u + k)
    · rcases flags k m1 with ⟨f0, f1⟩ | ⟨f0, f1⟩
      · -- it comes into the row
        have h59 : cF < us' u := by
          rw [cn]
          exact cnt_lt (k := k) _ m1 (by rw [f0]; decide)
        refine Or.inl ⟨us', cF + 1, upN fl cF k, sI (sR (sI κb (537 + 184 * u + 3 * k) 8 1) (535 + 184 * u) cF (537 + 184 * u + 3 * k)) (533 + 184 * u) 7 (nI (cF + 1)), sI ρb 1328 cF (nI (60 * u + k)), ⟨?_, ?_, I_is _ _ _ _, ?_, ?_, ?_, ?_⟩, m3, by omega, fun i hi => upN_ne (by omega), ?_, fun ρ1 Q hQ => ?_, fun κ1 Q K30 K49 K198 l5 l6 l7 l8 l9 l10 hK => ?_⟩
        · refine hA2.fr (StC.wI (StC.wR (hC2.wI _ _ _) (Or.inr (Or.inr (Or.inr (Or.inr (Or.inr (Or.inl ⟨u, hu, rfl⟩))))))) _ _ _) (hm2.wI _ _ _) ((Eqv.tr (Eqv.wI (by
    intro hh
    rcases hh with hh | hh | hh | hh | hh | hh | hh | hh | hh
    all_goals first | (obtain ⟨u', hu', hh | ⟨j', hj', hh⟩⟩ := hh <;> omega) | (obtain ⟨u', j', hu', hj', e1', e2'⟩ := hh <;> omega) | (simp only [tC, fC, sCc, kC, rC, wC, dC, tM, fM, sM, kM, rM, uM, wM, dM] at hh; omega)) _) (Eqv.wR (by
    intro hh
    rcases hh with hh | hh | hh | hh | hh | hh | hh | hh | hh
    all_goals first | (obtain ⟨u', hu', hh | ⟨j', hj', hh⟩⟩ := hh <;> omega) | (obtain ⟨u', j', hu', hj', e1', e2'⟩ := hh <;> omega) | (simp only [tC, fC, sCc, kC, rC, wC, dC, tM, fM, sM, kM, rM, uM, wM, dM] at hh; omega)) _)).sI (by
    intro hh
    rcases hh with hh | hh | hh | hh | hh | hh | hh | hh | hh
    all_goals first | (obtain ⟨u', hu', hh | ⟨j', hj', hh⟩⟩ := hh <;> omega) | (obtain ⟨u', j', hu', hj', e1', e2'⟩ := hh <;> omega) | (simp only [tC, fC, sCc, kC, rC, wC, dC, tM, fM, sM, kM, rM, uM, wM, dM] at hh; omega)) _) (Eqv.wI (by
    intro hh
    rcases hh with hh | hh | hh | hh | hh | hh | hh | hh
    all_goals first | (obtain ⟨u', hu', hh | ⟨j', hj', hh⟩⟩ := hh <;> omega) | (obtain ⟨u', j', hu', hj', e1', e2'⟩ := hh <;> omega) | (simp only [tC, fC, sCc, kC, rC, wC, dC, tM, fM, sM, kM, rM, uM, wM, dM] at hh; omega)) _) (Nat.le_refl _)
        · rw [I_cl (by decide)]; exact hob
        · intro i hi
          by_cases e : i = cF
          · subst e
            rw [upN_is]
            refine ⟨m1, ?_, I_is _ _ _ _, ?_⟩
            · rw [mR_sI, R_is]
            · unfold LiveS; rw [I_cl (by decide)]; exact hl
          · rw [upN_ne e]
            obtain ⟨a1, a2, a3, a4⟩ := row i (by omega)
            refine ⟨a1, ?_, ?_, ?_⟩
            · rw [mR_sI, R_sl e, mR_sI]; exact a2
            · rw [I_sl e]; exact a3
            · unfold LiveS; rw [I_cl (by decide)]; exact a4
        · intro i j hi hj e
          by_cases ei : i = cF
          · by_cases ej : j = cF
            · omega
            · rw [ei, upN_is, upN_ne ej] at e
              exact absurd e.symm (f1 j (by omega))
          · by_cases ej : j = cF
            · rw [ej, upN_is, upN_ne ei] at e
              exact absurd e (f1 i (by omega))
            · rw [upN_ne ei, upN_ne ej] at e
              exact d3 i j (by omega) (by omega) e
        · intro j hj
          by_cases e : j = k
          · subst e
            refine Or.inr ⟨?_, cF, by omega, upN_is⟩
            rw [I_cl (by omega), mI_sR, I_is]
          · rcases flags j hj with ⟨a1, a2⟩ | ⟨a1, i, a2, a3⟩
            · refine Or.inl ⟨?_, fun i hi => ?_⟩
              · rw [I_cl (by omega), mI_sR, I_cl (by omega)]; exact a1
              · by_cases ei : i = cF
                · rw [ei, upN_is]; exact Ne.symm e
                · rw [upN_ne ei]; exact a2 i (by omega)
            · refine Or.inr ⟨?_, i, by omega, by rw [upN_ne (by omega)]; exact a3⟩
              rw [I_cl (by omega), mI_sR, I_cl (by omega)]; exact a1
        · rw [cnt_up (k := k) (g := fun q => mI κb (537 + 184 * u + 3 * q) 8) (by simp only [f0]; decide) (by simp only [mI_sR, I_is, I_cl (show 537 + 184 * u + 3 * k ≠ 533 + 184 * u by omega)]) (fun i hi => by simp only [mI_sR, I_cl (show 537 + 184 * u + 3 * i ≠ 533 + 184 * u by omega), I_cl (show 537 + 184 * u + 3 * i ≠ 537 + 184 * u + 3 * k by omega)]) _ m1, ← cn]
        · refine ⟨fun j hj hl => (keep.1 j hj hl).sI (by simp only [thM]; omega) _, fun i => ?_, fun i => ?_, keep.2.2.2.1.sI (by simp only [sM]; omega) _, ?_⟩
          · rw [I_cl (by omega), mI_sR, I_cl (by omega)]; exact keep.2.1 i
          · rw [I_cl (by decide)]; exact keep.2.2.1 i
          · refine (((keep.2.2.2.2.sI ?_ _).tr (Eqv.wR ?_ _)).sI ?_ _) <;> (simp only [sCc]; omega)
        · simp (disch := omega) only [X_X9_followKey_30, X_X9_followKey_0, X_X9_followKey, hL.2.1, true_and, bzT1, bzT0]
          refine m6 _ _ (brF (by omega) (l0 _ _ ?_))
          simp (disch := omega) only [hL.2.2, true_and]
          refine c_isLive1 hL hu (by omega) (by rw [t1]; exact hl) (br1 ?_)
          simp (disch := omega) only [X_X9_joinDropRow_41, X_X9_joinDropRow_0, X_X9_joinDropRow, mI_c, mR_c, sI_c, sR_c, hL.2.1, hL.2.2, hC2.2.1, nls, lT, lF, tT, tF, eF, pF, zT, e0F, m1F, vT, cI, nI_1, nI_add, pk_mul, true_and, and_true, true_implies, false_implies, not_false_eq_true, not_true_eq_false, bzT1, bzT0, m10, m1z, o0F, forall_eq, implies_true, if_true, if_false, I_is, I_cl, I_sl, J_is, J_cl, J_sl, R_is, R_cl, R_sl, mI_sJ, mI_sR, mJ_sI, mJ_sR, mR_sI, mR_sJ, f0, c7]
          exact hQ
        · refine m7 _ _ (brT (Int32.not_lt.mp (pI (by omega))) (l1 _ _ (m_isLive1 hM hm2 (by omega) hl (br1 ?_))))
          exact m_263 hM hm2 c60 fl60 hu (by omega) (Or.inl rfl) (fun _ _ => by omega) (fun h => (h.elim (fun h => absurd h (by decide)) (fun ⟨i, i1, i2⟩ => absurd i2 (f1 i i1)))) (fun _ _ => hK)
      · refine Or.inl ⟨us', cF, fl, κb, ρb, ⟨hA2, hob, c7, row, d3, flags, cn⟩, m3, Nat.le_refl _, fun _ _ => rfl, keep, fun ρ1 Q hQ => ?_, fun κ1 Q K30 K49 K198 l5 l6 l7 l8 l9 l10 hK => ?_⟩
        · simp (disch := omega) only [X_X9_followKey_30, X_X9_followKey_0, X_X9_followKey, hL.2.1, true_and, bzT1, bzT0]
          refine m6 _ _ (brF (by omega) (l0 _ _ ?_))
          simp (disch := omega) only [hL.2.2, true_and]
          refine c_isLive1 hL hu (by omega) (by rw [t1]; exact hl) (br1 ?_)
          simp (disch := omega) only [X_X9_joinDropRow_41, X_X9_joinDropRow_0, X_X9_joinDropRow, mI_c, hL.2.1, hL.2.2, nls, lT, lF, tT, tF, eF, pF, zT, e0F, m1F, vT, cI, nI_1, nI_add, pk_mul, true_and, and_true, true_implies, false_implies, not_false_eq_true, not_true_eq_false, bzT1, bzT0, m10, m1z, o0F, forall_eq, implies_true, if_true, if_false, f0]
          exact hQ
        · refine m7 _ _ (brT (Int32.not_lt.mp (pI (by omega))) (l1 _ _ (m_isLive1 hM hm2 (by omega) hl (br1 ?_))))
          exact m_263 hM hm2 c60 fl60 hu (by omega) (Or.inl rfl) (fun _ h => by obtain ⟨i, i1, i2⟩ := f1; exact absurd i2 (h i i1)) (fun _ => hK) (fun _ h => by obtain ⟨i, i1, i2⟩ := f1; exact absurd i2 (h i i1))
    · refine Or.inl ⟨us', cF, fl, κb, ρb, ⟨hA2, hob, c7, row, d3, flags, cn⟩, m3, Nat.le_refl _, fun _ _ => rfl, keep, fun ρ1 Q hQ => ?_, fun κ1 Q K30 K49 K198 l5 l6 l7 l8 l9 l10 hK => ?_⟩
      · simp (disch := omega) only [X_X9_followKey_30, X_X9_followKey_0, X_X9_followKey, hL.2.1, true_and, bzT1, bzT0]
        refine m6 _ _ (brF (by omega) (l0 _ _ ?_))
        simp (disch := omega) only [hL.2.2, true_and]
        exact c_isLive0 hL hu (by omega) (by rw [t1]; exact hl) (br0 hQ)
      · refine m7 _ _ (brT (Int32.not_lt.mp (pI (by omega))) (l1 _ _ (m_isLive0 hM hm2 (by omega) hl (br0 ?_))))
        exact m_263 hM hm2 c60 fl60 hu (by omega) (Or.inr rfl) (fun h => absurd h (by decide)) (fun _ => hK) (fun h => absurd h (by decide))
  · refine Or.inr ⟨fun ρ1 Q hQ => ?_, m7⟩
    simp (disch := omega) only [X_X9_followKey_30, X_X9_followKey_0, X_X9_followKey, hL.2.1, true_and, bzT1, bzT0]
    exact m6 _ _ (brT rfl hQ)
end DROP2
