section MEET2
variable {G : Lay} {nn nn' sc n r0 : Nat} {mc rt hc K K' N us : Nat → Nat} {κ κ' ρ ρ' κ1 ρ1 : Mem} {u k : Nat}
def usP (us : Nat → Nat) (u : Nat) : Nat → Nat := fun v => if v = u then us u + 1 else us v
theorem usP_is : usP us u u = us u + 1 := if_pos rfl
theorem usP_ne {v : Nat} (h : v ≠ u) : usP us u v = us v := if_neg h
/-- the relation behind a further object -/
theorem RelA.add (hA : RelA nn sc n mc rt hc K N r0 us κ ρ) (h1 : StC κ') (h2 : StM ρ') (hu : u < 4) (ho : mI ρ 1316 u = 1) (h60 : us u < 60) (hcc : Eqv (adC u (us u)) κ κ') (hm : Eqv (adM u (us u)) ρ ρ') (yK : RelK K' nn' κ' ρ') (hKK : ∀ f, K f ≤ K' f) (y5 : mI κ' (533 + 184 * u) 5 = nI (us u + 1)) (z5 : mI ρ' 1317 u = nI (us u + 1)) (yR : ThR u (us u) κ' ρ') (yW : ThW n r0 mc rt K' ρ' (60 * u + us u)) (yU : ∀ k, k < us u → ¬ (mI ρ 1320 (60 * u + k) = mI ρ' 1320 (60 * u + us u) ∧ mI ρ 1321 (60 * u + k) = mI ρ' 1321 (60 * u + us u))) (yX : mI ρ' 1319 (60 * u + us u) = 2 → ∀ v, v < 4 → v ≠ u → mI ρ 1316 v = 1 → ¬ newK us ρ v (mI ρ' 1320 (60 * u + us u)) (mI ρ' 1321 (60 * u + us u))) (yc : (mI ρ' 1319 (60 * u + us u) = 1 ∨ mI ρ' 1319 (60 * u + us u) = 2) → (∀ r, r < r0 → ¬ (mI ρ 1305 r = mI ρ' 1320 (60 * u + us u) ∧ mI ρ 1306 r = mI ρ' 1321 (60 * u + us u))) ∧ ∀ v, v < 4 → mI ρ 1316 v = 1 → ∀ k, k < us v → ¬ (mI ρ 1320 (60 * v + k) = mI ρ' 1320 (60 * u + us u) ∧ mI ρ 1321 (60 * v + k) = mI ρ' 1321 (60 * u + us u))) : RelA nn' sc n mc rt hc K' N r0 (usP us u) κ' ρ' := by
  obtain ⟨⟨x1, x2, x3⟩, xT, xF, xS, xN, xK, xR, xU, xW, xD, xY, xZ⟩ := id hA
  have hs2 := xS.s2
  obtain ⟨o1, o2, o3, o4, o5⟩ := xU.op hu ho
  have hop : mI ρ' 1316 u = 1 := by rw [hm.I (by rintro ((h | h) | h | h) <;> omega)]; exact ho
  have same : ∀ a k', 1319 ≤ a → a ≤ 1321 → k' < us u → mI ρ' a (60 * u + k') = mI ρ a (60 * u + k') := fun a k' q1 q2 q3 => hm.I (by rintro ((h | h) | h | h) <;> omega)
  refine hA.unit (u := u) (K' := K') (us' := usP us u) h1 h2 (hcc.mo fun a j z => ?_) (hm.mo fun a j z => ?_) hu hKK yK (fun v hv => usP_ne hv) ⟨?_, Or.inr ⟨hop, ?_, ?_, ?_, ?_, fun k' hk' => ?_⟩⟩ (fun _ => ⟨fun k' hk' => ?_, fun k' k'' q1 q2 q3 q4 => ?_⟩) (fun _ f x hn => ?_) ?_
  · rintro ((h | h | h) | h | h | h)
    all_goals (rcases z with z | z | z | z | z | z | z | ⟨v', hv', hn', z⟩)
    all_goals first | (rcases z with z | ⟨j', hj', z⟩ <;> omega) | (obtain ⟨u', j', hu', hj', e1', e2'⟩ := z <;> omega) | (simp only [tC, fC, sCc, kC, rC, wC, dC] at z; omega)
  · rintro ((h | h) | h | h)
    all_goals (rcases z with z | z | z | z | z | z | ⟨v', hv', hn', z⟩)
    all_goals (simp only [tM, fM, sM, kM, rM, wM, dM, uM1] at z; omega)
  · rw [hcc.I (by rintro ((h | h | h) | h | h | h) <;> omega), hop, (xU u hu).1, ho]
  · rw [usP_is]; omega
  · rw [usP_is]; exact y5
  · rw [usP_is]; exact z5
  · rw [hcc.I (by rintro ((h | h | h) | h | h | h) <;> omega), hm.I (by rintro ((h | h) | h | h) <;> omega)]; exact o4
  · rw [usP_is] at hk'
    by_cases e : k' = us u
    · subst e; exact yR
    · exact (o5 k' (by omega)).f1 (hcc.mo fun a j z => by rintro ((h | h | h) | h | h | h) <;> simp only [thC] at z <;> omega) (hm.mo fun a j z => by rintro ((h | h) | h | h) <;> simp only [thM] at z <;> omega)
  · rw [usP_is] at hk'
    by_cases e : k' = us u
    · subst e; exact yW
    · exact (xZ.1 u hu ho k' (by omega)).f1 xS (hm.mo fun a j z => by rintro ((h | h) | h | h) <;> simp only [rM] at z <;> omega) (hm.mo fun a j z => by rintro ((h | h) | h | h) <;> simp only [sM] at z <;> omega) (hm.mo fun a j z => by rintro ((h | h) | h | h) <;> simp only [thM] at z <;> omega) hKK
  · rw [usP_is] at q1 q2
    by_cases e : k' = us u
    · by_cases e2 : k'' = us u
      · omega
      · exfalso
        rw [same _ k'' (by decide) (by decide) (by omega)] at q3 q4
        rw [e] at q3 q4
        exact yU k'' (by omega) ⟨q3.symm, q4.symm⟩
    · by_cases e2 : k'' = us u
      · exfalso
        rw [same _ k' (by decide) (by decide) (by omega)] at q3 q4
        rw [e2] at q3 q4
        exact yU k' (by omega) ⟨q3, q4⟩
      · rw [same _ k' (by decide) (by decide) (by omega), same _ k'' (by decide) (by decide) (by omega)] at q3 q4
        exact xZ.2.1 u hu ho k' k'' (by omega) (by omega) q3 q4
  · obtain ⟨k', q1, q2, q3, q4⟩ := hn
    rw [usP_is] at q1
    by_cases e : k' = us u
    · subst e
      right
      rw [← q3, ← q4]
      exact yX q2
    · left
      rw [same _ _ (by decide) (by decide) (by omega)] at q2 q3 q4
      exact ⟨ho, k', by omega, q2, q3, q4⟩
  · obtain ⟨C, q1, q2⟩ := xZ.2.2.2
    have er : ∀ a r, 1305 ≤ a → a ≤ 1307 → mI ρ' a r = mI ρ a r := fun a r a1 a2 => hm.I (by rintro ((h | h) | h | h) <;> omega)
    have old : ∀ v k', v < 4 → mI ρ' 1316 v = 1 → k' < usP us u v → ¬ (v = u ∧ k' = us u) → mI ρ 1316 v = 1 ∧ k' < us v ∧ ∀ a, 1319 ≤ a → a ≤ 1322 → mI ρ' a (60 * v + k') = mI ρ a (60 * v + k') := fun v k' v1 v2 v3 v4 => by
      have v5 : mI ρ 1316 v = 1 := by rw [hm.I (by rintro ((h | h) | h | h) <;> omega)] at v2; exact v2
      have l60 := (xU.op v1 v5).1
      have v6 : k' < us v := by
        by_cases e : v = u
        · subst e; rw [usP_is] at v3; omega
        · rw [usP_ne e] at v3; exact v3
      exact ⟨v5, v6, fun a a1 a2 => hm.I (by rintro ((h | h) | h | h) <;> omega)⟩
    by_cases hl : mI ρ' 1319 (60 * u + us u) = 1 ∨ mI ρ' 1319 (60 * u + us u) = 2
    · obtain ⟨a1, a2⟩ := yc hl
      refine ⟨fun f x => if f = mI ρ' 1320 (60 * u + us u) ∧ x = mI ρ' 1321 (60 * u + us u) then mI ρ' 1322 (60 * u + us u) else C f x, fun r hr => ?_, fun v v1 v2 k' v3 v4 => ?_⟩
      · have q := q1 r hr
        rw [← er 1307 r (by decide) (by decide)] at q
        rw [q]
        show _ = if mI ρ' 1305 r = _ ∧ mI ρ' 1306 r = _ then _ else C (mI ρ' 1305 r) (mI ρ' 1306 r)
        rw [er 1305 r (by decide) (by decide), er 1306 r (by decide) (by decide), if_neg (a1 r hr)]
      · by_cases e1 : v = u ∧ k' = us u
        · obtain ⟨rfl, rfl⟩ := e1
          exact (if_pos ⟨rfl, rfl⟩).symm
        · obtain ⟨b1, b2, b3⟩ := old v k' v1 v2 v3 e1
          rw [b3 1319 (by decide) (by decide)] at v4
          have q := q2 v v1 b1 k' b2 v4
          rw [← b3 1322 (by decide) (by decide)] at q
          rw [q]
          show _ = if mI ρ' 1320 (60 * v + k') = _ ∧ mI ρ' 1321 (60 * v + k') = _ then _ else C (mI ρ' 1320 (60 * v + k')) (mI ρ' 1321 (60 * v + k'))
          rw [b3 1320 (by decide) (by decide), b3 1321 (by decide) (by decide), if_neg (a2 v v1 b1 k' b2)]
    · refine ⟨C, fun r hr => ?_, fun v v1 v2 k' v3 v4 => ?_⟩
      · rw [er _ _ (by decide) (by decide), er _ _ (by decide) (by decide), er _ _ (by decide) (by decide)]; exact q1 r hr
      · by_cases e1 : v = u ∧ k' = us u
        · obtain ⟨rfl, rfl⟩ := e1
          exact absurd v4 hl
        · obtain ⟨b1, b2, b3⟩ := old v k' v1 v2 v3 e1
          rw [b3 _ (by decide) (by decide)] at v4
          rw [b3 _ (by decide) (by decide), b3 _ (by decide) (by decide), b3 _ (by decide) (by decide)]
          exact q2 v v1 b1 k' b2 v4
/-- to meet a row -/
theorem j_meetX (hG : Ly G) (hA : RelA nn sc n mc rt hc K N r0 us κ ρ) (hu : u < 4) (ho : mI ρ 1316 u = 1) {f x : Nat} (hf : f < 12) (hx1 : 1 ≤ x) (hxK : x ≤ K f) :
    (∃ k us' κ' ρ', k < us' u ∧ (∀ v, v ≠ u → us' v = us v) ∧ us u ≤ us' u ∧ RelA nn sc n mc rt hc K N r0 us' κ' ρ' ∧ mI ρ' 1316 u = 1 ∧ RunC (fun Q σ => X_X9_meet G Q (533 + 184 * u) (nI f) (nI x) σ) κ (537 + 184 * u + 3 * k) κ' ∧ RunM (fun Q σ => X_X12_meet G Q 1282 (nI u) (nI f) (nI x) σ) ρ (nI (60 * u + k)) ρ' ∧ mI ρ' 1320 (60 * u + k) = nI f ∧ mI ρ' 1321 (60 * u + k) = nI x ∧ Eqv (adC u (us u)) κ κ' ∧ Eqv (adM u (us u)) ρ ρ' ∧ (k < us u → κ' = κ ∧ ρ' = ρ ∧ us' = us) ∧ (us u ≤ k → k = us u ∧ us' = usP us u ∧ mI κ' (537 + 184 * u + 3 * us u) 8 = 0 ∧ mI ρ' 1319 (60 * u + us u) = 0)) ∨
    (us u = 60 ∧ RunC (fun Q σ => X_X9_meet G Q (533 + 184 * u) (nI f) (nI x) σ) κ 0 κ ∧ RunM (fun Q σ => X_X12_meet G Q 1282 (nI u) (nI f) (nI x) σ) ρ (-2) ρ) := by
  have hL := hG.1
  have hM := hG.2.2.2
  obtain ⟨⟨hC, hm, hNu⟩, xT, xF, xS, xN, xK, xR, xU, xW, xD, xY, xZ⟩ := id hA
  obtain ⟨o1, o2, o3, o4, o5⟩ := xU.op hu ho
  rcases objCase us ρ u (nI f) (nI x) with ⟨k, k1, k2, k3, k4⟩ | h
  · refine Or.inl ⟨k, us, κ, ρ, k1, fun _ _ => rfl, Nat.le_refl _, hA, ho, fun ρ1 Q hQ => ?_, fun κ1 Q hQ => ?_, k2, k3, Eqv.rf, Eqv.rf, fun _ => ⟨rfl, rfl, rfl⟩, fun h => by omega⟩
    · simp (disch := omega) only [X_X9_meet_22, X_X9_meet_0, X_X9_meet, hL.2.1, true_and]
      exact c_thingFor1 hL hC xU hu ho k1 k2 k3 k4 (brF (by omega) hQ)
    · simp (disch := omega) only [X_X12_meet_41, X_X12_meet_0, X_X12_meet, hM.1, true_and]
      exact m_objectOf1 hM hm o1 o3 hu k1 k2 k3 k4 (brF (pI (by omega)) hQ)
  · by_cases h60 : us u < 60
    · obtain ⟨κ', c0, c1, c2, c3, c4, c5, c6, c7, c8, c9, c10, c11⟩ := c_comesX hG hC xU hu ho h60 0 (nI f) (nI x)
      obtain ⟨ρ', d0, d1, d2, d3, d4, d5, d6, d7, d8, d9, d10⟩ := m_newObject hM hm hu o3 h60 0 (nI f) (nI x)
      have hop : mI ρ' 1316 u = 1 := by rw [d10.I (by rintro ((h | h) | h | h) <;> omega)]; exact ho
      refine Or.inl ⟨us u, usP us u, κ', ρ', by rw [usP_is]; omega, fun v hv => usP_ne hv, by rw [usP_is]; omega, ?_, hop, fun ρ1 Q hQ => ?_, fun κ1 Q hQ => ?_, d4, d5, c10, d10, fun h => by omega, fun _ => ⟨rfl, rfl, c11, d3⟩⟩
      · refine hA.add (K' := K) c1 d1 hu ho h60 c10 d10 (fun g hg => ?_) (fun _ => Nat.le_refl _) c2 d2 ⟨?_, ?_, ?_, ?_, ?_, fun m hm => ?_⟩ ?_ (fun j hj e => ?_) (fun e => ?_) (fun e => by rw [d3] at e; rcases e with e | e <;> exact absurd e (by decide))
        · rw [c9, d9]; exact xK g hg
        · rw [c3, d3]
        · rw [c4, d4]
        · rw [c5, d5]
        · rw [c6, d6]
        · rw [c7, d7]
        · rw [(c8 m hm).1, (c8 m hm).2, (d8 m hm).1, (d8 m hm).2]; exact ⟨rfl, rfl⟩
        · exact ⟨0, f, x, by decide, d3, hf, d4, hx1, hxK, d5, Or.inl d6, fun e => absurd e (by decide), fun e => absurd e (by decide)⟩
        · rw [d4, d5] at e; exact h j hj e
        · rw [d3] at e; exact absurd e (by decide)
      · simp (disch := omega) only [X_X9_meet_22, X_X9_meet_0, X_X9_meet, hL.2.1, true_and]
        exact c_thingFor0 hL hC xU hu ho h (brT rfl (c0 _ _ hQ))
      · simp (disch := omega) only [X_X12_meet_41, X_X12_meet_0, X_X12_meet, hM.1, true_and]
        refine m_objectOf0 hM hm o1 o3 hu h (brT m1_neg ?_)
        simp (disch := omega) only [mI_m, mR_m, mJ_m, sI_m, sJ_m, hM.1, hM.2, hm.1, hm.2, lT, lF, tT, tF, eF, pF, zT, m1F, vT, cI, true_and, and_true, true_implies, false_implies, not_false_eq_true, not_true_eq_false, forall_eq, implies_true, o3, nls]
        exact d0 _ _ hQ
    · have e60 : us u = 60 := by omega
      refine Or.inr ⟨e60, fun ρ1 Q hQ => ?_, fun κ1 Q hQ => ?_⟩
      · simp (disch := omega) only [X_X9_meet_22, X_X9_meet_0, X_X9_meet, hL.2.1, true_and]
        refine c_thingFor0 hL hC xU hu ho h (brT rfl ?_)
        simp (disch := omega) only [X_X9_comes_0, X_X9_comes, mI_c, mR_c, mJ_c, sI_c, sJ_c, sR_c, hL.1, hL.2.1, hL.2.2, hC.1, hC.2.1, hC.2.2.1, lT, lF, tT, tF, eF, pF, zT, m1F, vT, cI, true_and, and_true, true_implies, false_implies, not_false_eq_true, not_true_eq_false, forall_eq, implies_true, o2, nls]
        exact hQ
      · simp (disch := omega) only [X_X12_meet_41, X_X12_meet_0, X_X12_meet, hM.1, true_and]
        refine m_objectOf0 hM hm o1 o3 hu h (brT m1_neg ?_)
        simp (disch := omega) only [mI_m, mR_m, mJ_m, sI_m, sJ_m, hM.1, hM.2, hm.1, hm.2, lT, lF, tT, tF, eF, pF, zT, m1F, vT, cI, true_and, and_true, true_implies, false_implies, not_false_eq_true, not_true_eq_false, forall_eq, implies_true, o3, nls, eT]
        exact hQ
theorem j_meet (hG : Ly G) (hA : RelA nn sc n mc rt hc K N r0 us κ ρ) (hu : u < 4) (ho : mI ρ 1316 u = 1) {f x : Nat} (hf : f < 12) (hx1 : 1 ≤ x) (hxK : x ≤ K f) :
    (∃ k us' κ' ρ', k < us' u ∧ (∀ v, v ≠ u → us' v = us v) ∧ us u ≤ us' u ∧ RelA nn sc n mc rt hc K N r0 us' κ' ρ' ∧ mI ρ' 1316 u = 1 ∧ RunC (fun Q σ => X_X9_meet G Q (533 + 184 * u) (nI f) (nI x) σ) κ (537 + 184 * u + 3 * k) κ' ∧ RunM (fun Q σ => X_X12_meet G Q 1282 (nI u) (nI f) (nI x) σ) ρ (nI (60 * u + k)) ρ' ∧ mI ρ' 1320 (60 * u + k) = nI f ∧ mI ρ' 1321 (60 * u + k) = nI x ∧ Eqv (adC u (us u)) κ κ' ∧ Eqv (adM u (us u)) ρ ρ' ∧ (k < us u → κ' = κ ∧ ρ' = ρ ∧ us' = us)) ∨
    (us u = 60 ∧ RunC (fun Q σ => X_X9_meet G Q (533 + 184 * u) (nI f) (nI x) σ) κ 0 κ ∧ RunM (fun Q σ => X_X12_meet G Q 1282 (nI u) (nI f) (nI x) σ) ρ (-2) ρ) := by
  rcases j_meetX hG hA hu ho hf hx1 hxK with ⟨k, us', κ', ρ', a1, a2, a3, a4, a5, a6, a7, a8, a9, a10, a11, a12, -⟩ | h
  · exact Or.inl ⟨k, us', κ', ρ', a1, a2, a3, a4, a5, a6, a7, a8, a9, a10, a11, a12⟩
  · exact Or.inr h
end MEET2
