section DROP6
variable {G : Lay} {nn nn' sc n r0 : Nat} {mc rt hc K K' N us : Nat → Nat} {κ κ' ρ ρ' κ1 ρ1 : Mem} {u k : Nat} {cF : Nat} {fl : Nat → Nat}
theorem j_row (hG : Ly G) (hnn : nn ≤ 512) (hD : DR nn sc n mc rt hc K N r0 u us cF fl κ ρ) (hu : u < 4) :
    ∃ us' w κ' ρ', RelA nn sc n mc rt hc K N r0 us' κ' ρ' ∧ (∀ (ρ1 : Mem) (Q : Int32 → Mem → Prop), Q w (mg κ' ρ1) → X_X9_dropFrom_38 G Q (533 + 184 * u) 0 (mg κ ρ1)) ∧ ∀ (κ1 : Mem) (Q : Int32 → Mem → Prop), Q w (mg κ1 ρ') → X_X12_drop_30 G Q 1282 (nI u) (nI cF) 0 (mg κ1 ρ) := by
  have hL := hG.1
  have hM := hG.2.2.2
  have key := Lw.two (α1 := Int32 × Mem) (α2 := Int32 × Int32 × Mem) (β := Nat × (Nat → Nat) × Nat × (Nat → Nat) × Mem × Mem) (γ := Mem × Mem) (ι1 := (Int32 → Mem → Prop) × Mem) (ι2 := (Int32 → Mem → Prop) × Mem)
    (fun q => X_X9_dropFrom_38_s G q.1 (533 + 184 * u)) (fun b q => (nI b.1, mg b.2.2.2.2.1 q.2)) (fun q s => q.1 (-2) (mg s.1 q.2))
    (fun q => X_X12_drop_30_s G q.1 1282 (nI u)) (fun b q => (nI b.2.2.1, nI b.1, mg q.2 b.2.2.2.2.2)) (fun q s => q.1 (-2) (mg q.2 s.2)) 60
    (fun i b => b.1 = i ∧ DR nn sc n mc rt hc K N r0 u b.2.1 b.2.2.1 b.2.2.2.1 b.2.2.2.2.1 b.2.2.2.2.2 ∧ i ≤ b.2.2.1) (fun b => b.1 = b.2.2.1) (fun s => ∃ us', RelA nn sc n mc rt hc K N r0 us' s.1 s.2) (by
    rintro i ⟨i0, us0, c0, fl0, κ0, ρ0⟩ hi ⟨rfl, h1, h2⟩
    simp only at h1 h2 ⊢
    have h60 := h1.c60 hu
    by_cases hit : i0 = c0
    · exact Or.inl hit
    · right
      obtain ⟨hA0, ho0, d1, d2, d3, d4, d5⟩ := id h1
      obtain ⟨a1, a2, a3, a4⟩ := d2 i0 (by omega)
      have zC := hA0.1.1
      have zm := hA0.1.2.1
      have o1 := (hA0.2.2.2.2.2.2.2.1.op hu ho0).1
      rcases j_own hG hnn h1 hu a1 a4 with ⟨us', cF', fl', κ', ρ', b1, b2, b3, b4, b6, b7⟩ | ⟨us', κ', ρ', b1, b6, b7⟩
      · refine Or.inl ⟨by omega, (i0 + 1, us', cF', fl', κ', ρ'), ⟨rfl, b1, by simp only; omega⟩, fun q K' hK => ?_, fun q K' hK => ?_⟩
        · simp (disch := omega) only [X_X9_dropFrom_38_s, mI_c, mR_c, hL.2.1, zC.2.1, d1, a2, lT, lF, tT, tF, eF, pF, zT, m1F, vT, cI, true_and, and_true, true_implies, false_implies, not_false_eq_true, not_true_eq_false, forall_eq, implies_true, nI_1]
          exact b6 _ _ (br1 hK)
        · simp (disch := omega) only [X_X12_drop_30_s, mI_m, mR_m, hM.1, hM.2, zm.1, zm.2, a3, lT, lF, tT, tF, eF, pF, zT, m1F, vT, cI, true_and, and_true, true_implies, false_implies, not_false_eq_true, not_true_eq_false, forall_eq, implies_true]
          exact b7 _ _ _ _ (by rw [nI_1]; exact hK)
      · refine Or.inr ⟨(κ', ρ'), ⟨us', b1⟩, fun q K' hE => ?_, fun q K' hE => ?_⟩
        · simp (disch := omega) only [X_X9_dropFrom_38_s, mI_c, mR_c, hL.2.1, zC.2.1, d1, a2, lT, lF, tT, tF, eF, pF, zT, m1F, vT, cI, true_and, and_true, true_implies, false_implies, not_false_eq_true, not_true_eq_false, forall_eq, implies_true]
          exact b6 _ _ (br0 hE)
        · simp (disch := omega) only [X_X12_drop_30_s, mI_m, mR_m, hM.1, hM.2, zm.1, zm.2, a3, lT, lF, tT, tF, eF, pF, zT, m1F, vT, cI, true_and, and_true, true_implies, false_implies, not_false_eq_true, not_true_eq_false, forall_eq, implies_true]
          exact b7 _ _ _ _ hE) 0 (Nat.zero_le _) (0, us, cF, fl, κ, ρ) ⟨rfl, hD, Nat.zero_le _⟩
  rcases key with ⟨i', ⟨i0, us0, c0, fl0, κ0, ρ0⟩, k1, ⟨k2, k3, k4⟩, k8, k9, k10⟩ | ⟨⟨κ0, ρ0⟩, ⟨us0, k1⟩, k2, k3⟩
  · simp only at k2 k3 k4 k8
    subst k8
    have h60 := k3.c60 hu
    obtain ⟨κ', ρ', l1, l2, l3⟩ := j_fall hG k3 hu
    refine ⟨us0, nI i0, κ', ρ', l1, fun ρ1 Q hQ => ?_, fun κ1 Q hQ => ?_⟩
    · unfold X_X9_dropFrom_38
      refine k9 (Q, ρ1) (fun K' => ?_)
      simp (disch := omega) only [X_X9_dropFrom_38_s, mI_c, hL.2.1, k3.2.2.1, lT, lF, tT, tF, eF, pF, zT, m1F, vT, cI, true_and, and_true, true_implies, false_implies, not_false_eq_true, not_true_eq_false, forall_eq, implies_true]
      exact l2 _ _ hQ
    · unfold X_X12_drop_30
      refine k10 (Q, κ1) (fun K' => ?_)
      simp (disch := omega) only [X_X12_drop_30_s, lT, lF, tT, tF, eF, pF, zT, m1F, vT, cI, true_and, and_true, true_implies, false_implies, not_false_eq_true, not_true_eq_false, forall_eq, implies_true]
      exact l3 _ _ hQ
  · refine ⟨us0, -2, κ0, ρ0, k1, fun ρ1 Q hQ => ?_, fun κ1 Q hQ => ?_⟩
    · unfold X_X9_dropFrom_38
      exact k2 (Q, ρ1) hQ
    · unfold X_X12_drop_30
      exact k3 (Q, κ1) hQ
theorem cnt_zero {g : Nat → Int32} : ∀ n, (∀ i, i < n → g i = 0) → cnt g 1 n = 0 := by
  intro n
  induction n with
  | zero => intro _; rfl
  | succ n ih =>
    intro h
    show cnt g 1 n + (if g n = 1 then 1 else 0) = 0
    rw [ih (fun i hi => h i (by omega)), h n (by omega), if_neg (by decide)]
theorem j_drop (hG : Ly G) (hnn : nn ≤ 512) (h : Rel nn κ ρ) (o : Int32) : Jt nn (fun Q σ => X_X11_drop G Q 1 o σ) (fun Q σ => X_X12_drop G Q 1282 o σ) κ ρ := by
  obtain ⟨sc, n, mc, rt, hc, K, N, r0, us, hA⟩ := h
  have hL := hG.1
  have hM := hG.2.2.2
  obtain ⟨κ', ρ', hA', hj⟩ := j_live hG hA o
  have hR' : Rel (nn + 1) κ' ρ' := Rel.up ⟨sc, n, mc, rt, hc, K, N, r0, us, hA'⟩
  obtain ⟨⟨hC, hm, hNu⟩, xT, xF, xS, xN, xK, xR, xU, xW, xD, xY, xZ⟩ := id hA'
  have hs2 := xS.s2
  rcases hj with ⟨u, k, hu, hk, h60, ho, rfl, hl, c0, d0, -⟩ | ⟨c0, d0⟩
  · obtain ⟨o1, o2, o3, o4, o5⟩ := xU.op hu ho
    have e1 : (100 * u + k) / 100 = u := by omega
    have e6 : (60 * u + k) / 60 = u := by omega
    -- the flags go
    obtain ⟨⟨i1, κ1⟩, ⟨e0, f0, f1, f2⟩, run1⟩ := Lw.run (α := Int32 × Mem) (β := Nat × Mem) (ι := (Int32 → Mem → Prop) × Mem) (fun q => X_X9_dropFrom_2_s G q.1 (533 + 184 * u) (537 + 184 * u + 3 * k)) (fun b q => (nI b.1, mg b.2 q.2)) (us u) (fun i b => b.1 = i ∧ StC b.2 ∧ (∀ j, j < i → mI b.2 (537 + 184 * u + 3 * j) 8 = 0) ∧ Eqv (fun a j => ¬ (j = 8 ∧ ∃ q, q < 60 ∧ a = 537 + 184 * u + 3 * q)) κ' b.2) (by
      rintro i ⟨i0, κ0⟩ hi ⟨rfl, h0, h1, h2⟩
      simp only at h0 h1 h2
      have z5 : mI κ0 (533 + 184 * u) 5 = nI (us u) := by rw [h2.I (by rintro ⟨h, q, q1, q2⟩; omega)]; exact o2
      refine ⟨(i0 + 1, sI κ0 (537 + 184 * u + 3 * i0) 8 0), ⟨rfl, h0.wI _ _ _, fun j hj => ?_, h2.sI (by simp only [Classical.not_not]; exact ⟨trivial, i0, by omega, rfl⟩) _⟩, fun q K' hK => ?_⟩
      · by_cases e : j = i0
        · subst e; exact I_is _ _ _ _
        · simp only
          rw [I_cl (by omega)]; exact h1 j (by omega)
      · simp (disch := omega) only [X_X9_dropFrom_2_s, mI_c, mR_c, sI_c, hL.2.1, hL.2.2, h0.2.1, h0.2.2.1, z5, lT, lF, tT, tF, eF, pF, zT, m1F, vT, cI, true_and, and_true, true_implies, false_implies, not_false_eq_true, not_true_eq_false, forall_eq, implies_true, bzT0, nI_1]
        exact hK) 0 (Nat.zero_le _) (0, κ') ⟨rfl, hC, fun j hj => by omega, Eqv.rf⟩
    simp only at e0 f0 f1 f2
    subst e0
    have hA1 : RelA nn sc n mc rt hc K N r0 us κ1 ρ' := by
      refine hA'.fr f0 hm (f2.mo fun a j z => ?_) Eqv.rf (Nat.le_refl _)
      rintro ⟨rfl, q, q1, q2⟩
      rcases z with hh | hh | hh | hh | hh | hh | hh | hh | hh
      all_goals first | (obtain ⟨u', hu', hh | ⟨j', hj', hh⟩⟩ := hh <;> omega) | (obtain ⟨u', j', hu', hj', e1', e2'⟩ := hh <;> omega) | (simp only [tC, fC, sCc, kC, rC, wC, dC] at hh; omega)
    have z5 : mI κ1 (533 + 184 * u) 5 = nI (us u) := by rw [f2.I (by rintro ⟨h, q, q1, q2⟩; omega)]; exact o2
    have hA2 : RelA nn sc n mc rt hc K N r0 us (sI (sR (sI (sI κ1 (533 + 184 * u) 7 (nI 0)) (537 + 184 * u + 3 * k) 8 1) (535 + 184 * u) 0 (537 + 184 * u + 3 * k)) (533 + 184 * u) 7 (nI 1)) (sI ρ' 1328 0 (nI (60 * u + k))) := hA1.fr (StC.wI (StC.wR ((f0.wI _ _ _).wI _ _ _) (Or.inr (Or.inr (Or.inr (Or.inr (Or.inr (Or.inl ⟨u, hu, rfl⟩))))))) _ _ _) (hm.wI _ _ _) ((((Eqv.wI (by
    intro hh
    rcases hh with hh | hh | hh | hh | hh | hh | hh | hh | hh
    all_goals first | (obtain ⟨u', hu', hh | ⟨j', hj', hh⟩⟩ := hh <;> omega) | (obtain ⟨u', j', hu', hj', e1', e2'⟩ := hh <;> omega) | (simp only [tC, fC, sCc, kC, rC, wC, dC, tM, fM, sM, kM, rM, uM, wM, dM] at hh; omega)) _).sI (by
    intro hh
    rcases hh with hh | hh | hh | hh | hh | hh | hh | hh | hh
    all_goals first | (obtain ⟨u', hu', hh | ⟨j', hj', hh⟩⟩ := hh <;> omega) | (obtain ⟨u', j', hu', hj', e1', e2'⟩ := hh <;> omega) | (simp only [tC, fC, sCc, kC, rC, wC, dC, tM, fM, sM, kM, rM, uM, wM, dM] at hh; omega)) _).tr (Eqv.wR (by
    intro hh
    rcases hh with hh | hh | hh | hh | hh | hh | hh | hh | hh
    all_goals first | (obtain ⟨u', hu', hh | ⟨j', hj', hh⟩⟩ := hh <;> omega) | (obtain ⟨u', j', hu', hj', e1', e2'⟩ := hh <;> omega) | (simp only [tC, fC, sCc, kC, rC, wC, dC, tM, fM, sM, kM, rM, uM, wM, dM] at hh; omega)) _)).sI (by
    intro hh
    rcases hh with hh | hh | hh | hh | hh | hh | hh | hh | hh
    all_goals first | (obtain ⟨u', hu', hh | ⟨j', hj', hh⟩⟩ := hh <;> omega) | (obtain ⟨u', j', hu', hj', e1', e2'⟩ := hh <;> omega) | (simp only [tC, fC, sCc, kC, rC, wC, dC, tM, fM, sM, kM, rM, uM, wM, dM] at hh; omega)) _) (Eqv.wI (by
    intro hh
    rcases hh with hh | hh | hh | hh | hh | hh | hh | hh
    all_goals first | (obtain ⟨u', hu', hh | ⟨j', hj', hh⟩⟩ := hh <;> omega) | (obtain ⟨u', j', hu', hj', e1', e2'⟩ := hh <;> omega) | (simp only [tC, fC, sCc, kC, rC, wC, dC, tM, fM, sM, kM, rM, uM, wM, dM] at hh; omega)) _) (Nat.le_refl _)
    have hD : DR nn sc n mc rt hc K N r0 u us 1 (fun _ => k) (sI (sR (sI (sI κ1 (533 + 184 * u) 7 (nI 0)) (537 + 184 * u + 3 * k) 8 1) (535 + 184 * u) 0 (537 + 184 * u + 3 * k)) (533 + 184 * u) 7 (nI 1)) (sI ρ' 1328 0 (nI (60 * u + k))) := by
      refine ⟨hA2, by rw [I_cl (by decide)]; exact ho, I_is _ _ _ _, fun i hi => ?_, fun i j hi hj _ => by omega, fun j hj => ?_, ?_⟩
      · obtain rfl : i = 0 := by omega
        refine ⟨hk, by rw [mR_sI, R_is], I_is _ _ _ _, ?_⟩
        unfold LiveS; rw [I_cl (by decide)]; exact hl
      · by_cases e : j = k
        · subst e
          exact Or.inr ⟨by rw [I_cl (by omega), mI_sR, I_is], 0, by decide, rfl⟩
        · refine Or.inl ⟨?_, fun i hi => Ne.symm e⟩
          rw [I_cl (by omega), mI_sR, I_cl (by omega), I_cl (by omega)]; exact f1 j hj
      · rw [cnt_up (k := k) (g := fun q => mI κ1 (537 + 184 * u + 3 * q) 8) (by simp only [f1 k hk]; decide) (by simp only [mI_sR, I_is, I_cl (show 537 + 184 * u + 3 * k ≠ 533 + 184 * u by omega)]) (fun i hi => by simp only [mI_sR, I_cl (show 537 + 184 * u + 3 * i ≠ 533 + 184 * u by omega), I_cl (show 537 + 184 * u + 3 * i ≠ 537 + 184 * u + 3 * k by omega)]) _ hk, cnt_zero _ (fun i hi => f1 i hi)]
    obtain ⟨us', w, κ2, ρ2, b1, b2, b3⟩ := j_row hG hnn hD hu
    refine ⟨w, κ2, ρ2, fun ρ1 Q hQ => ?_, fun κa Q hQ => ?_, Rel.up ⟨sc, n, mc, rt, hc, K, N, r0, us', b1⟩⟩
    · simp (disch := omega) only [X_X11_drop_27, X_X11_drop_0, X_X11_drop, true_and, hL.1]
      refine c0 _ _ (brF (by omega) ?_)
      simp (disch := omega) only [mI_c, mR_c, mJ_c, sI_c, sJ_c, sR_c, hL.1, hL.2.1, hL.2.2, hC.1, hC.2.1, hC.2.2.1, nls, lT, lF, tT, tF, eF, pF, zT, e0F, m1F, vT, cI, nI_1, nI_add, pk_mul, true_and, and_true, true_implies, false_implies, not_false_eq_true, not_true_eq_false, bzT1, bzT0, m10, m1z, o0F, forall_eq, implies_true, if_true, if_false, dI, e1, X_X9_dropFrom_99, X_X9_dropFrom_0, X_X9_dropFrom, X_X9_dropFrom_2]
      refine run1 (Q, ρ1) (fun K' => ?_)
      simp (disch := omega) only [X_X9_dropFrom_2_s, mI_c, mR_c, sI_c, sR_c, hL.2.1, hL.2.2, f0.2.1, z5, X_X9_joinDropRow_41, X_X9_joinDropRow_0, X_X9_joinDropRow, n0, nls, lT, lF, tT, tF, eF, pF, zT, e0F, m1F, vT, cI, nI_1, nI_add, pk_mul, true_and, and_true, true_implies, false_implies, not_false_eq_true, not_true_eq_false, bzT1, bzT0, m10, m1z, o0F, forall_eq, implies_true, if_true, if_false, I_is, I_cl, I_sl, J_is, J_cl, J_sl, R_is, R_cl, R_sl, mI_sJ, mI_sR, mJ_sI, mJ_sR, mR_sI, mR_sJ, f1 k hk]
      exact b2 _ _ hQ
    · simp (disch := omega) only [X_X12_drop_292, X_X12_drop_287, X_X12_drop_320, X_X12_drop_258, X_X12_drop_326, X_X12_drop_195, X_X12_drop_143, X_X12_drop_380, X_X12_drop_0, X_X12_drop, true_and, hM.1]
      refine d0 _ _ (brT (Int32.not_lt.mp (pI (by omega))) ?_)
      simp (disch := omega) only [mI_m, mR_m, mJ_m, sI_m, sJ_m, hM.1, hM.2, hm.1, hm.2, n0, nls, lT, lF, tT, tF, eF, pF, zT, e0F, m1F, vT, cI, nI_1, nI_add, pk_mul, true_and, and_true, true_implies, false_implies, not_false_eq_true, not_true_eq_false, bzT1, bzT0, m10, m1z, o0F, forall_eq, implies_true, if_true, if_false, dI, e6]
      exact b3 _ _ hQ
  · refine ⟨-1, κ', ρ', fun ρ1 Q hQ => ?_, fun κ1 Q hQ => ?_, hR'⟩
    · simp (disch := omega) only [X_X11_drop_27, X_X11_drop_0, X_X11_drop, true_and, hL.1]
      exact c0 _ _ (brT (by trivial) hQ)
    · simp (disch := omega) only [X_X12_drop_292, X_X12_drop_287, X_X12_drop_320, X_X12_drop_258, X_X12_drop_326, X_X12_drop_195, X_X12_drop_143, X_X12_drop_380, X_X12_drop_0, X_X12_drop, true_and, hM.1]
      exact d0 _ _ (brF (by decide) hQ)
end DROP6
