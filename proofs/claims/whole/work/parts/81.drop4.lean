def KeepE (sc u : Nat) (us : Nat → Nat) (κ ρ κ' ρ' : Mem) : Prop := (∀ k, k < us u → LiveS ρ (60 * u + k) → Eqv (thM (60 * u + k)) ρ ρ') ∧ Eqv sM ρ ρ' ∧ Eqv (sCc sc) κ κ'
theorem KeepE.rf {sc u : Nat} {us : Nat → Nat} {κ ρ : Mem} : KeepE sc u us κ ρ κ ρ := ⟨fun _ _ _ => Eqv.rf, Eqv.rf, Eqv.rf⟩
theorem KeepD.e {sc u : Nat} {us : Nat → Nat} {κ ρ κ' ρ' : Mem} (h : KeepD sc u us κ ρ κ' ρ') : KeepE sc u us κ ρ κ' ρ' := ⟨h.1, h.2.2.2.1, h.2.2.2.2⟩
theorem KeepE.tr {sc u : Nat} {us us' : Nat → Nat} {κ ρ κ' ρ' κ'' ρ'' : Mem} (h : KeepE sc u us κ ρ κ' ρ') (hu : us u ≤ us' u) (h2 : KeepE sc u us' κ' ρ' κ'' ρ'') : KeepE sc u us κ ρ κ'' ρ'' :=
  ⟨fun k hk hl => (h.1 k hk hl).tr (h2.1 k (by omega) (hl.fr (h.1 k hk hl))), h.2.1.tr h2.2.1, h.2.2.tr h2.2.2⟩
section DROP4
variable {G : Lay} {nn nn' sc n r0 : Nat} {mc rt hc K K' N us : Nat → Nat} {κ κ' ρ ρ' κ1 ρ1 : Mem} {u k : Nat} {cF : Nat} {fl : Nat → Nat}
theorem DR.fr (h : DR nn sc n mc rt hc K N r0 u us cF fl κ ρ) (hu : u < 4) (hA : RelA nn sc n mc rt hc K N r0 us κ' ρ') (hc' : Eqv (fun a j => a = 533 + 184 * u ∧ j = 7 ∨ a = 535 + 184 * u ∨ ∃ k, k < 60 ∧ a = 537 + 184 * u + 3 * k ∧ j = 8) κ κ') (hm : Eqv (fun a _ => a = 1316 ∨ a = 1319 ∨ a = 1328) ρ ρ') : DR nn sc n mc rt hc K N r0 u us cF fl κ' ρ' := by
  obtain ⟨h1, h2, h3, h4, h5, h6, h7⟩ := h
  have o1 := (h1.2.2.2.2.2.2.2.1.op hu h2).1
  have fg : ∀ k, k < us u → mI κ' (537 + 184 * u + 3 * k) 8 = mI κ (537 + 184 * u + 3 * k) 8 := fun k hk => hc'.I (Or.inr (Or.inr ⟨k, by omega, rfl, rfl⟩))
  refine ⟨hA, ?_, ?_, fun i hi => ?_, h5, fun k hk => ?_, ?_⟩
  · rw [hm.I (Or.inl rfl)]; exact h2
  · rw [hc'.I (Or.inl ⟨rfl, rfl⟩)]; exact h3
  · obtain ⟨a1, a2, a3, a4⟩ := h4 i hi
    refine ⟨a1, ?_, ?_, ?_⟩
    · rw [hc'.R (Or.inr (Or.inl rfl))]; exact a2
    · rw [hm.I (Or.inr (Or.inr rfl))]; exact a3
    · unfold LiveS; rw [hm.I (Or.inr (Or.inl rfl))]; exact a4
  · rw [fg k hk]; exact h6 k hk
  · rw [h7]; exact (cnt_cg _ fg).symm
/-- a member of one in the row, both sides -/
theorem j_mem (hG : Ly G) (hnn : nn ≤ 512) (hD : DR nn sc n mc rt hc K N r0 u us cF fl κ ρ) (hu : u < 4) (hk : k < us u) (hl : LiveS ρ (60 * u + k)) {c m : Nat} (ec : mI ρ 1322 (60 * u + k) = nI c) (hc1 : c < n) (hm1 : m < mc c) :
    (∃ us' cF' fl' κ' ρ', DR nn sc n mc rt hc K N r0 u us' cF' fl' κ' ρ' ∧ us u ≤ us' u ∧ cF ≤ cF' ∧ (∀ i, i < cF → fl' i = fl i) ∧ KeepE sc u us κ ρ κ' ρ' ∧
      (∀ (ρ1 : Mem) (Q : Int32 → Mem → Prop) (K' : Int32 × Mem → Prop), K' (nI (m + 1), mg κ' ρ1) → X_X9_followOwned_18_s G Q (533 + 184 * u) (537 + 184 * u + 3 * k) (sc + 4 + 5 * c) K' (nI m, mg κ ρ1)) ∧
      ∀ (κ1 : Mem) (Q : Int32 → Mem → Prop) (K30 K' : Int32 × Int32 × Mem → Prop) (l5 : Int32), K' (nI cF', nI (m + 1), mg κ1 ρ') → X_X12_drop_49_s G Q K30 1282 (nI u) l5 (nI (60 * u + k)) K' (nI cF, nI m, mg κ1 ρ)) ∨
    ∃ us' κ' ρ', RelA nn sc n mc rt hc K N r0 us' κ' ρ' ∧
      (∀ (ρ1 : Mem) (Q : Int32 → Mem → Prop) (K' : Int32 × Mem → Prop), Q 0 (mg κ' ρ1) → X_X9_followOwned_18_s G Q (533 + 184 * u) (537 + 184 * u + 3 * k) (sc + 4 + 5 * c) K' (nI m, mg κ ρ1)) ∧
      ∀ (κ1 : Mem) (Q : Int32 → Mem → Prop) (K30 K' : Int32 × Int32 × Mem → Prop) (l5 : Int32), Q (-2) (mg κ1 ρ') → X_X12_drop_49_s G Q K30 1282 (nI u) l5 (nI (60 * u + k)) K' (nI cF, nI m, mg κ1 ρ) := by
  have hL := hG.1
  have hM := hG.2.2.2
  have hA := hD.1
  have ho := hD.2.1
  obtain ⟨⟨hC, hm, hNu⟩, xT, xF, xS, xN, xK, xR, xU, xW, xD, xY, xZ⟩ := id hA
  have hs2 := xS.s2
  have hT2 := hG.s hs2
  have hK2 := hC.ss hs2
  have h12 := xS.le
  have h16 := xS.m16 hc1
  have hmcM := (xS.cls hc1).2.2.2.2.1
  have hmcC := (xS.cls hc1).2.2.2.1
  obtain ⟨o1, o2, o3, o4, o5⟩ := xU.op hu ho
  obtain ⟨t1, t2, t3, t4, t5, t6⟩ := o5 k hk
  obtain ⟨g3, g4, g5⟩ := memT hG xS hc1 hm1
  obtain ⟨q0, q1, q2, q3, q5, q8, q11⟩ := xS.mem hc1 hm1
  obtain ⟨⟨kk, k5, ek, k3, ⟨ff, f6, ef, fk1, -, -⟩, kt⟩, -⟩ := xS.mw hc1 hm1
  obtain ⟨f, f1, f2, c', c1', c2', c3', c4', c5'⟩ := hA.liv hu ho hk hl
  have ecc : c' = c := (eI (by omega) (by omega)).mp (c2'.symm.trans ec)
  subst ecc
  rw [ek] at q2
  -- heads
  have cH : ∀ (ρ1 : Mem) (Q : Int32 → Mem → Prop) (K' : Int32 × Mem → Prop), (((mI ρ 1294 (16 * c' + m)) &&& 4 = 0 → K' (nI (m + 1), mg κ ρ1)) ∧ (¬ (mI ρ 1294 (16 * c' + m)) &&& 4 = 0 → X_X9_followMember G (fun w9 s8 => ((w9 = 0 → Q (0 : Int32) s8) ∧ (¬ w9 = 0 → K' (nI (m + 1), s8)))) (533 + 184 * u) (537 + 184 * u + 3 * k) (mR κ (sc + 5 + 5 * c') m) (nI m) (mg κ ρ1))) → X_X9_followOwned_18_s G Q (533 + 184 * u) (537 + 184 * u + 3 * k) (sc + 4 + 5 * c') K' (nI m, mg κ ρ1) := by
    intro ρ1 Q K' hh
    simp (disch := omega) only [X_X9_followOwned_18_s, X_X9_followOwned_56, X_X2_has_14, X_X2_has_0, X_X2_has, mI_c, mR_c, hT2.2.1, hK2.2.1, hL.2.1, lT, lF, tT, tF, eF, pF, zT, m1F, vT, cI, true_and, and_true, true_implies, false_implies, not_false_eq_true, not_true_eq_false, forall_eq, implies_true, hmcC, g3, q3, bzT1, bzT0, nI_1]
    refine ⟨fun e => hh.1 e, fun e => ?_⟩
    simp (disch := omega) only [o0F, lT, lF, tT, tF, eF, pF, zT, m1F, vT, cI, true_and, and_true, true_implies, false_implies, not_false_eq_true, not_true_eq_false, forall_eq, implies_true]
    exact hh.2 e
  have mH : ∀ (κ1 : Mem) (Q : Int32 → Mem → Prop) (K30 K' : Int32 × Int32 × Mem → Prop) (l5 : Int32), (((mI ρ 1294 (16 * c' + m)) &&& 4 = 0 → K' (nI cF, nI (m + 1), mg κ1 ρ)) ∧ (¬ (mI ρ 1294 (16 * c' + m)) &&& 4 = 0 → ((nI kk = nI 4 → (mI ρ 1324 (16 * (60 * u + k) + m) = 0 → X_X12_drop_195 G Q K30 K' 1282 (nI u) (nI cF) l5 (nI (60 * u + k)) (nI m) (nI (16 * c' + m)) (nI 0) (mg κ1 (sI ρ 1329 0 (mI ρ 1324 (16 * (60 * u + k) + m))))) ∧ (¬ mI ρ 1324 (16 * (60 * u + k) + m) = 0 → X_X12_drop_195 G Q K30 K' 1282 (nI u) (nI cF) l5 (nI (60 * u + k)) (nI m) (nI (16 * c' + m)) (nI 1) (mg κ1 (sI ρ 1329 0 (mI ρ 1324 (16 * (60 * u + k) + m)))))) ∧ (¬ nI kk = nI 4 → X_X12_isList G (fun w11 s10 => ((w11 = 0 → X_X12_drop_195 G Q K30 K' 1282 (nI u) (nI cF) l5 (nI (60 * u + k)) (nI m) (nI (16 * c' + m)) (0 : Int32) s10) ∧ (¬ w11 = 0 → X_X12_drop_168 G Q K30 K' 1282 (nI u) (nI cF) l5 (nI (60 * u + k)) (nI m) (nI (16 * c' + m)) (mI s10 1282 60) (0 : Int32) s10))) 1282 (nI (60 * u + k)) (nI m) (mg κ1 ρ))))) → X_X12_drop_49_s G Q K30 1282 (nI u) l5 (nI (60 * u + k)) K' (nI cF, nI m, mg κ1 ρ) := by
    intro κ1 Q K30 K' l5 hh
    simp (disch := omega) only [X_X12_drop_49_s, X_X12_drop_326, X_X12_drop_143, show (16 : Int32) = nI 16 from rfl, pk_mul, nI_add, mI_m, mR_m, sI_m, mR_sI, I_is, hM.1, hM.2, hm.1, hm.2, lT, lF, tT, tF, eF, pF, zT, m1F, vT, cI, true_and, and_true, true_implies, false_implies, not_false_eq_true, not_true_eq_false, forall_eq, implies_true, hmcM, ek, nI_1, ec, show (0 : Int32).toNatClampNeg = 0 from by decide, show ∀ N, 0 < N → vp_in 0 N = True from fun N h => eq_true ((vI (n := 0) (by decide)).mpr h)]
    exact hh
  by_cases hF : mI ρ 1294 (16 * c' + m) &&& 4 = 0
  · exact Or.inl ⟨us, cF, fl, κ, ρ, hD, Nat.le_refl _, Nat.le_refl _, fun _ _ => rfl, KeepE.rf, fun ρ1 Q K' hK => cH ρ1 Q K' (brT hF hK), fun κ1 Q K30 K' l5 hK => mH κ1 Q K30 K' l5 (brT hF hK)⟩
  · have h4k : 4 ≤ kk := by
      by_cases h : 4 ≤ kk
      · exact h
      · exfalso
        have h1 := fk1 (by omega)
        rw [ef] at hF
        have : ff = 0 ∨ ff = 1 := by omega
        rcases this with rfl | rfl
        · exact hF (by decide)
        · exact hF (by decide)
    obtain ⟨t, ht, et, -⟩ := kt h4k
    have q8' : mI κ (mR κ (sc + 5 + 5 * c') m) 8 = nI t := (q8 (by rw [ek]; exact (lI (a := 4) (by decide) (by omega)).mpr h4k)).trans et
    have hrt := xS.rt12 ht
    have hxn := (xK (rt t) (by omega)).2.2
    -- scratch of the reference
    have hAs : ∀ v, RelA nn sc n mc rt hc K N r0 us κ (sI ρ 1329 0 v) := fun v => hA.fr hC (hm.wI _ _ _) Eqv.rf (Eqv.wI (by
    intro hh
    rcases hh with hh | hh | hh | hh | hh | hh | hh | hh
    all_goals first | (obtain ⟨u', hu', hh | ⟨j', hj', hh⟩⟩ := hh <;> omega) | (obtain ⟨u', j', hu', hj', e1', e2'⟩ := hh <;> omega) | (simp only [tC, fC, sCc, kC, rC, wC, dC, tM, fM, sM, kM, rM, uM, wM, dM] at hh; omega)) _) (Nat.le_refl _)
    have hDs : ∀ v, DR nn sc n mc rt hc K N r0 u us cF fl κ (sI ρ 1329 0 v) := fun v => hD.fr hu (hAs v) Eqv.rf (Eqv.wI (by omega) _)
    have kes : ∀ v, KeepE sc u us κ ρ κ (sI ρ 1329 0 v) := fun v => ⟨fun _ _ _ => Eqv.wI (by simp only [thM]; omega) _, Eqv.wI (by simp only [sM]; omega) _, Eqv.rf⟩
    by_cases h4 : kk = 4
    · subst h4
      have cM4 : ∀ (ρ1 : Mem) (Q : Int32 → Mem → Prop), ((mI ρ 1324 (16 * (60 * u + k) + m) = 0 → Q 1 (mg κ ρ1)) ∧ (¬ mI ρ 1324 (16 * (60 * u + k) + m) = 0 → X_X9_followKey G (fun w13 s12 => ((w13 = 0 → Q 0 s12) ∧ (¬ w13 = 0 → Q 1 s12))) (533 + 184 * u) (nI (rt t)) (mI ρ 1324 (16 * (60 * u + k) + m)) (mg κ ρ1))) → X_X9_followMember G Q (533 + 184 * u) (537 + 184 * u + 3 * k) (mR κ (sc + 5 + 5 * c') m) (nI m) (mg κ ρ1) := by
        intro ρ1 Q hh
        simp (disch := omega) only [X_X9_followMember_53, X_X9_followMember_48, X_X9_followMember_0, X_X9_followMember, mI_c, mR_c, hL.2.1, hL.1, hC.2.1, xS.r13, hT2.1, g3, q8', lT, lF, tT, tF, eF, pF, zT, m1F, vT, cI, true_and, and_true, true_implies, false_implies, not_false_eq_true, not_true_eq_false, forall_eq, implies_true]
        refine c_rootOf1 hG hC xS ht ?_
        simp (disch := omega) only [mI_c, mR_c, hL.2.2, hC.2.2.1, q2, nls, lT, lF, tT, tF, eF, pF, zT, e0F, m1F, vT, cI, nI_1, nI_add, pk_mul, true_and, and_true, true_implies, false_implies, not_false_eq_true, not_true_eq_false, bzT1, bzT0, m10, m1z, o0F, forall_eq, implies_true, if_true, if_false, (t6 m (by omega)).1]
        exact hh
      rcases c5' m hm1 ek with v0 | ⟨x, t', ht', et', x1, x2, v1⟩
      · refine Or.inl ⟨us, cF, fl, κ, sI ρ 1329 0 (mI ρ 1324 (16 * (60 * u + k) + m)), hDs _, Nat.le_refl _, Nat.le_refl _, fun _ _ => rfl, kes _, fun ρ1 Q K' hK => cH ρ1 Q K' (brF hF (cM4 _ _ (brT v0 (br1 hK)))), fun κ1 Q K30 K' l5 hK => mH κ1 Q K30 K' l5 (brF hF (brT rfl (brT v0 ?_)))⟩
        unfold X_X12_drop_195 X_X12_drop_198
        refine ⟨1, ?_⟩
        show X_X12_drop_198_s G Q K30 K' 1282 (nI u) l5 (nI (60 * u + k)) (nI m) (nI (16 * c' + m)) (nI 0) _ (nI cF, 0, _)
        simp only [X_X12_drop_198_s, X_X12_drop_326, nI_1]
        exact brT (by decide) hK
      · have ett : t' = t := (eI (by omega) (by omega)).mp (et'.symm.trans et)
        subst ett
        have vne : ¬ mI ρ 1324 (16 * (60 * u + k) + m) = 0 := by
          rw [v1]
          intro e
          have := (eI (b := 0) (by omega) (by decide)).mp e
          omega
        have head2 : ∀ (κ1 : Mem) (Q : Int32 → Mem → Prop) (K30 K' : Int32 × Int32 × Mem → Prop) (l5 : Int32), X_X12_meet G (fun w9 s8 => ((0 ≤ w9 → X_X12_load G (fun s10 => X_X12_isLive G (fun w12 s11 => ((w12 = 0 → X_X12_drop_258 G Q K30 K' (Lp (X_X12_drop_198_s G Q K30 K' 1282 (nI u) l5 (nI (60 * u + k)) (nI m) (nI (16 * c' + m)) (nI 1)) 1) 1282 (nI u) (nI cF) l5 (nI (60 * u + k)) (nI m) (nI (16 * c' + m)) (nI 1) 0 w9 (1 : Int32) s11) ∧ (¬ w12 = 0 → X_X12_drop_258 G Q K30 K' (Lp (X_X12_drop_198_s G Q K30 K' 1282 (nI u) l5 (nI (60 * u + k)) (nI m) (nI (16 * c' + m)) (nI 1)) 1) 1282 (nI u) (nI cF) l5 (nI (60 * u + k)) (nI m) (nI (16 * c' + m)) (nI 1) 0 w9 (0 : Int32) s11))) 1282 w9 s10) 1282 w9 s8) ∧ (¬ 0 ≤ w9 → Q (-2 : Int32) s8))) 1282 (nI u) (nI (rt t')) (nI x) (mg κ1 (sI ρ 1329 0 (nI x))) → X_X12_drop_49_s G Q K30 1282 (nI u) l5 (nI (60 * u + k)) K' (nI cF, nI m, mg κ1 ρ) := by
          intro κ1 Q K30 K' l5 hh
          refine mH κ1 Q K30 K' l5 (brF hF (brT rfl (brF vne ?_)))
          rw [v1]
          unfold X_X12_drop_195 X_X12_drop_198
          refine ⟨2, ?_⟩
          show X_X12_drop_198_s G Q K30 K' 1282 (nI u) l5 (nI (60 * u + k)) (nI m) (nI (16 * c' + m)) (nI 1) (Lp (X_X12_drop_198_s G Q K30 K' 1282 (nI u) l5 (nI (60 * u + k)) (nI m) (nI (16 * c' + m)) (nI 1)) 1) (nI cF, 0, mg κ1 (sI ρ 1329 0 (nI x)))
          generalize Lp (X_X12_drop_198_s G Q K30 K' 1282 (nI u) l5 (nI (60 * u + k)) (nI m) (nI (16 * c' + m)) (nI 1)) 1 = KK at hh ⊢
          unfold X_X12_drop_198_s
          refine brF (by decide) ?_
          have et9 : mI (sI ρ 1329 0 (nI x)) 1291 (16 * c' + m) = nI t' := by rw [I_cl (by decide)]; exact et
          simp (disch := omega) only [mI_m, mR_m, hM.1, hM.2, hm.1, hm.2, mR_sI, cI, vT, true_and, et9]
          refine m_rootOf hM (hm.wI _ _ _) (hAs (nI x)).2.2.2.1 ht ?_
          simp (disch := omega) only [mI_m, mR_m, hM.1, hM.2, hm.1, hm.2, mR_sI, true_and, show (0 : Int32).toNatClampNeg = 0 from by decide, I_is, show ∀ N, 0 < N → vp_in 0 N = True from fun N h => eq_true ((vI (n := 0) (by decide)).mpr h)]
          exact hh
        rcases j_fk hG (hDs (nI x)) hu (f := rt t') (x := x) (by omega) x1 x2 with ⟨us', cF', fl', κ', ρ', a1, a2, a3, a4, a5, a6, a7⟩ | ⟨a6, a7⟩
        · refine Or.inl ⟨us', cF', fl', κ', ρ', a1, a2, a3, a4, (kes (nI x)).tr (Nat.le_refl _) a5.e, fun ρ1 Q K' hK => cH ρ1 Q K' (brF hF (cM4 _ _ (brF vne ?_))), fun κ1 Q K30 K' l5 hK => head2 κ1 Q K30 K' l5 (a7 _ _ _ _ _ _ _ _ _ _ _ ?_)⟩
          · rw [v1]; exact a6 _ _ (br1 (br1 hK))
          · show X_X12_drop_198_s G Q K30 K' 1282 (nI u) l5 (nI (60 * u + k)) (nI m) (nI (16 * c' + m)) (nI 1) _ (nI cF', 0 + 1, _)
            simp only [X_X12_drop_198_s, X_X12_drop_326, nI_1]
            exact brT (by decide) hK
        · refine Or.inr ⟨us, κ, sI ρ 1329 0 (nI x), hAs _, fun ρ1 Q K' hQ => cH ρ1 Q K' (brF hF (cM4 _ _ (brF vne ?_))), fun κ1 Q K30 K' l5 hQ => head2 κ1 Q K30 K' l5 (a7 _ _ (brF (by decide) hQ))⟩
          rw [v1]; exact a6 _ _ (br0 (br0 hQ))
    · have h5 : kk = 5 := by omega
      subst h5
      obtain ⟨t0, a, a', tt, ht0, htt, ett, q8t, l0, l1, l2, l3, l4⟩ := j_lst hG hA hu ho hk ec hc1 hm1 ek
      have e1 : tt = t := (eI (by omega) (by omega)).mp (ett.symm.trans et)
      subst e1
      have stb : StM (sF (kl ρ a' t0) 1329 0 t0 a') := l4.1.2.1.wF _ _ _ _
      have hAb : RelA nn sc n mc rt hc K N r0 us (sA κ (536 + 184 * u) a) (sF (kl ρ a' t0) 1329 0 t0 a') := l4.fr l4.1.1 stb Eqv.rf (Eqv.rf.sF fun k _ _ => (by
    intro hh
    rcases hh with hh | hh | hh | hh | hh | hh | hh | hh
    all_goals first | (obtain ⟨u', hu', hh | ⟨j', hj', hh⟩⟩ := hh <;> omega) | (obtain ⟨u', j', hu', hj', e1', e2'⟩ := hh <;> omega) | (simp only [tC, fC, sCc, kC, rC, wC, dC, tM, fM, sM, kM, rM, uM, wM, dM] at hh; omega))) (Nat.le_refl _)
      have ekl : Eqv (fun q j => q ≠ 1327 ∧ ¬ (q = 1282 ∧ j = 60)) ρ (kl ρ a' t0) := by
        unfold kl
        exact ((Eqv.rf.sA (fun k h => h.1 rfl)).sI (fun h => h.2 ⟨rfl, rfl⟩) _)
      have eb : Eqv (fun q j => q ≠ 1327 ∧ ¬ (q = 1282 ∧ j = 60) ∧ q ≠ 1329) ρ (sF (kl ρ a' t0) 1329 0 t0 a') := (ekl.mo fun q j h => ⟨h.1, h.2.1⟩).sF (fun k _ _ h => h.2.2 rfl)
      have hDb : DR nn sc n mc rt hc K N r0 u us cF fl (sA κ (536 + 184 * u) a) (sF (kl ρ a' t0) 1329 0 t0 a') := hD.fr hu hAb (Eqv.rf.sA fun k h => by rcases h with h | h | ⟨j, h1, h2, h3⟩ <;> omega) (eb.mo fun q j h => by omega)
      have keb : KeepE sc u us κ ρ (sA κ (536 + 184 * u) a) (sF (kl ρ a' t0) 1329 0 t0 a') := ⟨fun _ _ _ => eb.mo fun q j h => by simp only [thM] at h; omega, eb.mo fun q j h => by simp only [sM] at h; omega, Eqv.rf.sA fun k h => by simp only [sCc] at h; omega⟩
      have cM5 : ∀ (ρ1 : Mem) (Q : Int32 → Mem → Prop), X_X9_followMember_65 G Q (533 + 184 * u) (nI (rt tt)) (nI t0) 0 (mg (sA κ (536 + 184 * u) a) ρ1) → X_X9_followMember G Q (533 + 184 * u) (537 + 184 * u + 3 * k) (mR κ (sc + 5 + 5 * c') m) (nI m) (mg κ ρ1) := by
        intro ρ1 Q hh
        simp (disch := omega) only [X_X9_followMember_53, X_X9_followMember_48, X_X9_followMember_0, X_X9_followMember, mI_c, mR_c, hL.2.1, hL.1, hC.2.1, xS.r13, hT2.1, g3, q8', lT, lF, tT, tF, eF, pF, zT, m1F, vT, cI, true_and, and_true, true_implies, false_implies, not_false_eq_true, not_true_eq_false, forall_eq, implies_true]
        refine c_rootOf1 hG hC xS ht ?_
        simp (disch := omega) only [mI_c, q2, nls, lT, lF, tT, tF, eF, pF, zT, e0F, m1F, vT, cI, nI_1, nI_add, pk_mul, true_and, and_true, true_implies, false_implies, not_false_eq_true, not_true_eq_false, bzT1, bzT0, m10, m1z, o0F, forall_eq, implies_true, if_true, if_false]
        exact l0 _ _ hh
      have mM5 : ∀ (κ1 : Mem) (Q : Int32 → Mem → Prop) (K30 K' : Int32 × Int32 × Mem → Prop) (l5 : Int32), X_X12_drop_195 G Q K30 K' 1282 (nI u) (nI cF) l5 (nI (60 * u + k)) (nI m) (nI (16 * c' + m)) (nI t0) (mg κ1 (sF (kl ρ a' t0) 1329 0 t0 a')) → X_X12_drop_49_s G Q K30 1282 (nI u) l5 (nI (60 * u + k)) K' (nI cF, nI m, mg κ1 ρ) := by
        intro κ1 Q K30 K' l5 hh
        refine mH κ1 Q K30 K' l5 (brF hF (brF (by decide) (l1 _ _ (br1 ?_))))
        simp (disch := omega) only [mI_m, kl_60]
        unfold X_X12_drop_168
        refine Lw.nat t0 (fun i y => y = (nI i, mg κ1 (sF (kl ρ a' t0) 1329 0 i a'))) ?_ 0 (Nat.zero_le _) _ (by rw [sF_0]; rfl)
        rintro K2 i y hi rfl hk'
        by_cases h : i < t0
        · simp (disch := omega) only [X_X12_drop_168_s, mI_m, mR_m, sI_m, sF_R, kl_R, sF_cl, kl_k, hM.1, hM.2, hm.1, hm.2, lT, lF, tT, tF, eF, pF, zT, m1F, vT, cI, true_and, and_true, true_implies, false_implies, not_false_eq_true, not_true_eq_false, forall_eq, implies_true, nI_1]
          refine hk' _ h ?_
          rw [sF_st (by omega) rfl]
        · obtain rfl : i = t0 := by omega
          simp (disch := omega) only [X_X12_drop_168_s, lT, lF, tT, tF, eF, pF, zT, m1F, vT, cI, true_and, and_true, true_implies, false_implies, not_false_eq_true, not_true_eq_false, forall_eq, implies_true]
          exact hh
      rcases j_keys hG hDb hu (tt := tt) (t := t0) (e8 := 16 * c' + m) htt ht0 (by omega) (by rw [eb.I (by omega)]; exact et) (fun i hi => by rw [sA_is, sF_in (by omega) hi]; exact l2 i hi) (fun i hi => by
          obtain ⟨x, x1, x2, x3⟩ := l3 i hi
          exact ⟨x, x1, x2, by rw [sF_in (by omega) hi]; exact x3⟩) with ⟨us', cF', fl', κ', ρ', a1, a2, a3, a4, a5, a6, a7⟩ | ⟨us', κ', ρ', a1, a6, a7⟩
      · exact Or.inl ⟨us', cF', fl', κ', ρ', a1, a2, a3, a4, keb.tr (Nat.le_refl _) a5.e, fun ρ1 Q K' hK => cH ρ1 Q K' (brF hF (cM5 _ _ (a6 _ _ (br1 hK)))), fun κ1 Q K30 K' l5 hK => mM5 κ1 Q K30 K' l5 (a7 _ _ _ _ _ _ _ (by rw [nI_1]; exact hK))⟩
      · exact Or.inr ⟨us', κ', ρ', a1, fun ρ1 Q K' hQ => cH ρ1 Q K' (brF hF (cM5 _ _ (a6 _ _ (br0 hQ)))), fun κ1 Q K30 K' l5 hQ => mM5 κ1 Q K30 K' l5 (a7 _ _ _ _ _ _ _ hQ)⟩
end DROP4
