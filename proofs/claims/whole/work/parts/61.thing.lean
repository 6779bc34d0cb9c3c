section THING
variable {G : Lay} {nn sc n r0 : Nat} {mc rt hc K N us : Nat → Nat} {κ κ' ρ ρ' κ1 ρ1 : Mem} {u k : Nat}
theorem RelU.op (hU : RelU us κ ρ) (hu : u < 4) (ho : mI ρ 1316 u = 1) : UnR us κ ρ u := ((hU u hu).2.resolve_left (by rw [ho]; decide)).2
/-- the relation behind a change of one object (and of what its unit has loaded) -/
theorem RelA.thing (hA : RelA nn sc n mc rt hc K N r0 us κ ρ) (h1 : StC κ') (h2 : StM ρ') (hu : u < 4) (ho : mI ρ 1316 u = 1) (hk : k < us u) (hcc : Eqv (ldC u k) κ κ') (hm : Eqv (ldM u k) ρ ρ') (yl : mI κ' (533 + 184 * u) 6 = mI ρ' 1318 u) (yR : ThR u k κ' ρ') (yW : ThW n r0 mc rt K ρ' (60 * u + k)) (yf : mI ρ' 1320 (60 * u + k) = mI ρ 1320 (60 * u + k)) (yk : mI ρ' 1321 (60 * u + k) = mI ρ 1321 (60 * u + k)) (yn : mI ρ' 1319 (60 * u + k) = 2 → mI ρ 1319 (60 * u + k) = 2) (yc : (mI ρ' 1319 (60 * u + k) = 1 ∨ mI ρ' 1319 (60 * u + k) = 2) → (mI ρ 1319 (60 * u + k) = 1 ∨ mI ρ 1319 (60 * u + k) = 2) ∧ mI ρ' 1322 (60 * u + k) = mI ρ 1322 (60 * u + k) ∨ ∃ r, r < r0 ∧ mI ρ 1305 r = mI ρ 1320 (60 * u + k) ∧ mI ρ 1306 r = mI ρ 1321 (60 * u + k) ∧ mI ρ' 1322 (60 * u + k) = mI ρ 1307 r) : RelA nn sc n mc rt hc K N r0 us κ' ρ' := by
  obtain ⟨⟨x1, x2, x3⟩, xT, xF, xS, xN, xK, xR, xU, xW, xD, xY, xZ⟩ := id hA
  have hs2 := xS.s2
  obtain ⟨o1, o2, o3, o4, o5⟩ := xU.op hu ho
  have hop : mI ρ' 1316 u = 1 := by rw [hm.I (by rintro ((h | h) | h) <;> omega)]; exact ho
  have same : ∀ a k', 1319 ≤ a → a ≤ 1321 → k' < us u → k' ≠ k → mI ρ' a (60 * u + k') = mI ρ a (60 * u + k') := fun a k' q1 q2 q3 q4 => hm.I (by rintro ((h | h) | h) <;> omega)
  refine hA.unit (u := u) (K' := K) (us' := us) h1 h2 (hcc.mo fun a j z => ?_) (hm.mo fun a j z => ?_) hu (fun _ => Nat.le_refl _) (xK.fr (hcc.mo fun a j z => ?_) (hm.mo fun a j z => ?_)) (fun _ _ => rfl) ⟨?_, Or.inr ⟨hop, o1, ?_, ?_, yl, fun k' hk' => ?_⟩⟩ (fun _ => ⟨fun k' hk' => ?_, fun k' k'' q1 q2 q3 q4 => ?_⟩) (fun _ f x hn => Or.inl ⟨ho, ?_⟩) ?_
  · rintro ((h | h | h) | h)
    all_goals (rcases z with z | z | z | z | z | z | z | ⟨v', hv', hn', z⟩)
    all_goals first | (rcases z with z | ⟨j', hj', z⟩ <;> omega) | (obtain ⟨u', j', hu', hj', e1', e2'⟩ := z <;> omega) | (simp only [tC, fC, sCc, kC, rC, wC, dC] at z; omega)
  · rintro ((h | h) | h)
    all_goals (rcases z with z | z | z | z | z | z | ⟨v', hv', hn', z⟩)
    all_goals (simp only [tM, fM, sM, kM, rM, wM, dM, uM1] at z; omega)
  · simp only [kC] at z
    rintro ((h | h | h) | h) <;> omega
  · simp only [kM] at z
    rintro ((h | h) | h) <;> omega
  · rw [hcc.I (by rintro ((h | h | h) | h) <;> omega), hop, (xU u hu).1, ho]
  · rw [hcc.I (by rintro ((h | h | h) | h) <;> omega)]; exact o2
  · rw [hm.I (by rintro ((h | h) | h) <;> omega)]; exact o3
  · by_cases e : k' = k
    · subst e; exact yR
    · exact (o5 k' hk').f1 (hcc.mo fun a j z => by rintro ((h | h | h) | h) <;> simp only [thC] at z <;> omega) (hm.mo fun a j z => by rintro ((h | h) | h) <;> simp only [thM] at z <;> omega)
  · by_cases e : k' = k
    · subst e; exact yW
    · exact (xZ.1 u hu ho k' hk').f1 xS (hm.mo fun a j z => by rintro ((h | h) | h) <;> simp only [rM] at z <;> omega) (hm.mo fun a j z => by rintro ((h | h) | h) <;> simp only [sM] at z <;> omega) (hm.mo fun a j z => by rintro ((h | h) | h) <;> simp only [thM] at z <;> omega) (fun _ => Nat.le_refl _)
  · refine xZ.2.1 u hu ho k' k'' q1 q2 ?_ ?_
    · have a1 : mI ρ' 1320 (60 * u + k') = mI ρ 1320 (60 * u + k') := by
        by_cases e : k' = k
        · subst e; exact yf
        · exact same _ _ (by decide) (by decide) q1 e
      have a2 : mI ρ' 1320 (60 * u + k'') = mI ρ 1320 (60 * u + k'') := by
        by_cases e : k'' = k
        · subst e; exact yf
        · exact same _ _ (by decide) (by decide) q2 e
      rw [← a1, ← a2]; exact q3
    · have a1 : mI ρ' 1321 (60 * u + k') = mI ρ 1321 (60 * u + k') := by
        by_cases e : k' = k
        · subst e; exact yk
        · exact same _ _ (by decide) (by decide) q1 e
      have a2 : mI ρ' 1321 (60 * u + k'') = mI ρ 1321 (60 * u + k'') := by
        by_cases e : k'' = k
        · subst e; exact yk
        · exact same _ _ (by decide) (by decide) q2 e
      rw [← a1, ← a2]; exact q4
  · obtain ⟨k', q1, q2, q3, q4⟩ := hn
    by_cases e : k' = k
    · subst e
      exact ⟨k', q1, yn q2, yf.symm.trans q3, yk.symm.trans q4⟩
    · rw [same _ _ (by decide) (by decide) q1 e] at q2 q3 q4
      exact ⟨k', q1, q2, q3, q4⟩
  · obtain ⟨C, q1, q2⟩ := xZ.2.2.2
    refine ⟨C, fun r hr => ?_, fun v v1 v2 k' v3 v4 => ?_⟩
    · have e : ∀ a, 1305 ≤ a → a ≤ 1307 → mI ρ' a r = mI ρ a r := fun a a1 a2 => hm.I (by rintro ((h | h) | h) <;> omega)
      rw [e _ (by decide) (by decide), e _ (by decide) (by decide), e _ (by decide) (by decide)]; exact q1 r hr
    · by_cases e1 : v = u ∧ k' = k
      · obtain ⟨rfl, rfl⟩ := e1
        rw [yf, yk]
        rcases yc v4 with ⟨a1, a2⟩ | ⟨r, a1, a2, a3, a4⟩
        · rw [a2]; exact q2 v v1 ho k' v3 a1
        · rw [a4, ← a2, ← a3]; exact q1 r a1
      · have v5 : mI ρ 1316 v = 1 := by rw [hm.I (by rintro ((h | h) | h) <;> omega)] at v2; exact v2
        have := (xU.op v1 v5).1
        have e : ∀ a, 1319 ≤ a → a ≤ 1322 → mI ρ' a (60 * v + k') = mI ρ a (60 * v + k') := fun a a1 a2 => hm.I (by rintro ((h | h) | h) <;> omega)
        rw [e _ (by decide) (by decide)] at v4
        rw [e _ (by decide) (by decide), e _ (by decide) (by decide), e _ (by decide) (by decide)]
        exact q2 v v1 v5 k' v3 v4
/-- a reference's value of a row is a key -/
theorem RowsW.key (hY : RowsW n r0 mc rt K ρ) (hS : RelS sc n mc rt hc κ ρ) {r c m : Nat} (hr : r < r0) (hc1 : c < n) (ec : mI ρ 1307 r = nI c) (hm : m < mc c) (h4 : mI ρ 1290 (16 * c + m) = 4) : mI ρ 1309 (16 * r + m) = 0 ∨ ∃ x t, t < n ∧ mI ρ 1291 (16 * c + m) = nI t ∧ 1 ≤ x ∧ x ≤ K (rt t) ∧ mI ρ 1309 (16 * r + m) = nI x := by
  have h12 := hS.le
  obtain ⟨f, d, x, x1, x2, x3, x4, x5, x6, x7, x8, x9, x10⟩ := hY r hr
  have ed : c = d := (eI (by omega) (by omega)).mp (ec.symm.trans x4)
  subst ed
  by_cases h0 : mI ρ 1309 (16 * r + m) = 0
  · exact Or.inl h0
  · obtain ⟨⟨k, k5, ek, -, -, kt⟩, -⟩ := hS.mw hc1 hm
    have ek4 : k = 4 := (eI (b := 4) (by omega) (by decide)).mp (ek.symm.trans h4)
    obtain ⟨t, ht, et, -⟩ := kt (by omega)
    obtain ⟨r', r1, r2, r3, -⟩ := (x10 m hm).2.2 h4 h0 t (by omega) et
    obtain ⟨f', d', x', y1, y2, y3, y4, y5, y6, y7, y8, -⟩ := hY r' r1
    have ht2 := hS.rt_lt t ht
    have ef : f' = rt t := (eI (by omega) (by omega)).mp (y2.symm.trans r2)
    subst ef
    exact Or.inr ⟨x', t, ht, et, y6, y7, r3.symm.trans y8⟩
theorem j_load (hG : Ly G) (hA : RelA nn sc n mc rt hc K N r0 us κ ρ) (hu : u < 4) (ho : mI ρ 1316 u = 1) (hk : k < us u) : ∃ κ' ρ', RunC0 (fun Q σ => X_X9_loadStand G Q (533 + 184 * u) (537 + 184 * u + 3 * k) σ) κ κ' ∧ RunM0 (fun Q σ => X_X12_load G Q 1282 (nI (60 * u + k)) σ) ρ ρ' ∧ RelA nn sc n mc rt hc K N r0 us κ' ρ' ∧ mI ρ' 1319 (60 * u + k) ≠ 0 ∧ Eqv (ldC u k) κ κ' ∧ Eqv (ldM u k) ρ ρ' ∧ mI ρ' 1320 (60 * u + k) = mI ρ 1320 (60 * u + k) ∧ mI ρ' 1321 (60 * u + k) = mI ρ 1321 (60 * u + k) ∧ (mI ρ' 1319 (60 * u + k) = 2 → mI ρ 1319 (60 * u + k) = 2) ∧ (mI ρ 1319 (60 * u + k) ≠ 0 → κ' = κ ∧ ρ' = ρ) := by
  obtain ⟨⟨hC, hm, hNu⟩, xT, xF, xS, xN, xK, xR, xU, xW, xD, xY, xZ⟩ := id hA
  have hM := hG.2.2.2
  obtain ⟨o1, o2, o3, o4, o5⟩ := xU.op hu ho
  obtain ⟨t1, t2, t3, t4, t5, t6⟩ := o5 k hk
  by_cases s0 : mI ρ 1319 (60 * u + k) = 0
  · obtain ⟨s, f, x, y1, y2, y3, y4, y5, y6, y7, y8, y9, y10⟩ := xZ.1 u hu ho k hk
    rw [s0] at t1
    rw [y4] at t2
    rcases rowCase xR y3 (mI ρ 1321 (60 * u + k)) with ⟨i, r, q1, q2, q3, q4⟩ | ⟨q1, q2⟩
    · obtain ⟨w1, w2, w3, w4, w5⟩ := q3
      obtain ⟨κ', c0, c1, c2, c3, c4, c5, c6, c7, c8, c9⟩ := c_load1 (x := mI ρ 1321 (60 * u + k)) hG hC xR hu (by omega) y3 q1 t1 t2 t3 (w2.trans q4)
      obtain ⟨ρ', d0, d1, d2, d3, d4, d5, d6, d7, d8, d9⟩ := m_load1 hM hm xR hu (by omega) q2 s0 (w1.trans y4.symm) q4
      refine ⟨κ', ρ', c0, d0, ?_, ?_, c9, d9, d3, d4, ?_, fun h => absurd s0 h⟩
      · refine hA.thing c1 d1 hu ho hk c9 d9 (by rw [c8, d8, o4]) ⟨?_, ?_, ?_, ?_, ?_, fun m hm => ?_⟩ ?_ d3 d4 (fun h => by rw [d2] at h; exact absurd h (by decide)) (fun _ => Or.inr ⟨r, q2, w1.trans y4.symm, q4, d5⟩)
        · rw [c2, d2]
        · rw [c3, d3, y4]
        · rw [c4, d4]
        · rw [c5, d5, w3]
        · rw [c6, d6, w4]
        · rw [(c7 m hm).1, (c7 m hm).2, (d7 m hm).1, (d7 m hm).2, w5 m hm]
          exact ⟨rfl, rfl⟩
        · obtain ⟨f', c, x', z1, z2, z3, z4, z5, z6, z7, z8, z9, z10⟩ := xY r q2
          have ef : f' = f := (eI (by omega) (by omega)).mp (z2.symm.trans w1)
          subst ef
          have h16 := xS.m16 z3
          have h12 := xS.le
          have w : ∀ a, 1289 ≤ a → a ≤ 1300 → ∀ m, m < mc c → mI ρ' a (16 * c + m) = mI ρ a (16 * c + m) := fun a g1 g2 m g3 => d9.I (by rintro ((h | h) | h) <;> omega)
          refine ⟨1, f', x, by decide, d2, z1, by rw [d3, y4], y5, y6, by rw [d4, y7], Or.inr ⟨c, z3, by rw [d5, z4]⟩, fun _ _ => ⟨c, z3, by rw [d5, z4], z5, fun m g1 g2 => ?_, fun m g1 g2 => ?_⟩, fun h => absurd h (by decide)⟩
          · rw [(d7 m g2).1, (d7 m g2).2]
            exact ⟨z9 m g1 g2, z9 m g1 g2⟩
          · rw [w _ (by decide) (by decide) m g1] at g2
            rw [(d7 m (by omega)).1, w 1291 (by decide) (by decide) m g1]
            exact xY.key xS q2 z3 z4 g1 g2
      · rw [d2]; decide
      · intro h; rw [d2] at h; exact absurd h (by decide)
    · have c0 := c_load0 hG hC xR hu (show k < 60 by omega) y3 t1 t2 t3 q1
      have d0 := m_load0 hM hm xR (show 60 * u + k < 240 by omega) s0 (by rw [y4]; exact q2)
      have c9 : Eqv (ldC u k) κ (sI κ (537 + 184 * u + 3 * k) 1 4) := Eqv.wI (fun h => h (Or.inl (Or.inl ⟨rfl, by decide, by decide⟩))) _
      have d9 : Eqv (ldM u k) ρ (sI ρ 1319 (60 * u + k) 4) := Eqv.wI (fun h => h (Or.inl (Or.inl ⟨by decide, by decide, rfl⟩))) _
      refine ⟨_, _, c0, d0, ?_, ?_, c9, d9, I_cl (by decide), I_cl (by decide), ?_, fun h => absurd s0 h⟩
      · refine hA.thing (hC.wI _ _ _) (hm.wI _ _ _) hu ho hk c9 d9 ?_ ⟨?_, ?_, ?_, ?_, ?_, fun m hm => ?_⟩ ?_ (I_cl (by decide)) (I_cl (by decide)) (fun h => by rw [I_is] at h; exact absurd h (by decide)) (fun h => by rw [I_is] at h; rcases h with h | h <;> exact absurd h (by decide))
        · rw [I_cl (by omega), I_cl (by decide)]; exact o4
        · rw [I_is, I_is]
        · rw [I_sl (by decide), I_cl (by decide), y4]; exact t2
        · rw [I_sl (by decide), I_cl (by decide)]; exact t3
        · rw [I_sl (by decide), I_cl (by decide)]; exact t4
        · rw [I_sl (by decide), I_cl (by decide)]; exact t5
        · simp (disch := omega) only [I_cl]; exact t6 m hm
        · refine ⟨4, f, x, by decide, I_is _ _ _ _, y3, by rw [I_cl (by decide)]; exact y4, y5, y6, by rw [I_cl (by decide)]; exact y7, by rw [I_cl (by decide)]; exact y8, fun _ h => by omega, fun h => absurd h (by decide)⟩
      · rw [I_is]; decide
      · intro h; rw [I_is] at h; exact absurd h (by decide)
  · refine ⟨κ, ρ, c_loadN hG hu (by omega) (by rw [t1]; exact s0), m_loadN hM hm (by omega) s0, hA, s0, Eqv.rf, Eqv.rf, rfl, rfl, fun h => h, fun _ => ⟨rfl, rfl⟩⟩
end THING
