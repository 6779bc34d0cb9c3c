section PERFORM
variable {G : Lay} {nn sc n r0 r1 w : Nat} {mc rt hc K N N1 us : Nat → Nat} {κ κ' κ0 ρ ρ' ρ0 κ1 ρ1 : Mem} {u k f q : Nat} {l L : List Nat} {st : Nat → Int32} {rk : Nat → Nat} {C : Int32 → Int32 → Int32}
theorem RelR.same (xR : RelR N r0 κ ρ) (c0 : ∀ f, f < 12 → mI κ' 270 f = mI κ 270 f) (c1 : ∀ f, f < 12 → ∀ i, i < N f → rwE κ κ' (60 * f + i) (60 * f + i)) (m0 : mI ρ' 1282 26 = nI r0) (m1 : ∀ r, r < r0 → reE ρ ρ' r r) : RelR N r0 κ' ρ' := by
  obtain ⟨z1, z2, z3, z4, z5, z6, z7, z8⟩ := xR
  refine ⟨fun g hg => ?_, m0, z3, fun g hg a b hab hb => ?_, fun g hg a ha => ?_, fun s hs => ?_, fun s s' hs hs' e1 e2 => ?_, fun g hg => ?_⟩
  · rw [c0 g hg]; exact z1 g hg
  · rw [(c1 g hg a (by omega)).1, (c1 g hg b hb).1]; exact z4 g hg a b hab hb
  · obtain ⟨s, hs, q⟩ := z5 g hg a ha
    exact ⟨s, hs, (c1 g hg a ha).row q (m1 s hs)⟩
  · obtain ⟨g, hg, a, ha, q⟩ := z6 s hs
    exact ⟨g, hg, a, ha, (c1 g hg a ha).row q (m1 s hs)⟩
  · rw [(m1 s hs).1, (m1 s' hs').1] at e1
    rw [(m1 s hs).2.1, (m1 s' hs').2.1] at e2
    exact z7 s s' hs hs' e1 e2
  · rw [← z8 g hg]
    exact cnt_cg _ (fun s hs => (m1 s hs).1)
theorem RowsW.same (h : RowsW n r0 mc rt K ρ) (hS : RelS sc n mc rt hc κ ρ) (hm : Eqv sM ρ ρ') (m1 : ∀ r, r < r0 → reE ρ ρ' r r) : RowsW n r0 mc rt K ρ' := by
  have h12 := hS.le
  have hi : ∀ c d, c < n → isa (par ρ') c d = isa (par ρ) c d := fun c d hc => isa_cg hS.par h12 (fun c hc => sM.cl hm (by decide) (by decide) (by omega)) c hc
  have hcl : ∀ r c, r < r0 → mI ρ 1307 r = nI c → c < 12 → c < n := fun r c hr2 e h2 => by
    obtain ⟨f, d, x, -, -, y1, y2, -⟩ := h r hr2
    rw [e] at y2
    have := (eI (by omega) (by omega)).mp y2
    omega
  intro r hr2
  obtain ⟨f, c, x, x1, x2, x3, x4, x5, x6, x7, x8, x9, x10⟩ := h r hr2
  obtain ⟨e5, e6, e7, e8, e9⟩ := m1 r hr2
  have h16 := hS.m16 x3
  refine ⟨f, c, x, x1, e5.trans x2, x3, e7.trans x4, x5, x6, x7, e6.trans x8, fun q q1 q2 => (e9 q q2).trans (x9 q q1 q2), fun q q1 => ?_⟩
  have w : ∀ a, 1289 ≤ a → a ≤ 1300 → mI ρ' a (16 * c + q) = mI ρ a (16 * c + q) := fun a y z => sM.me hm y z (by omega) (by omega)
  obtain ⟨y1, y2, y3⟩ := x10 q q1
  refine ⟨?_, ?_, ?_⟩
  · rw [w _ (by decide) (by decide), w _ (by decide) (by decide), e9 q (by omega)]; exact y1
  · rw [w _ (by decide) (by decide), w _ (by decide) (by decide), e9 q (by omega)]
    intro z r' z1 z2 c' o z3 z4 z5 z6
    rw [(m1 r' z1).2.2.1] at z4
    rw [hi c' o (hcl r' c' z1 z4 z3)] at z6
    rw [(m1 r' z1).2.2.2.2 q (by omega)]
    exact y2 z r' z1 z2 c' o z3 z4 z5 z6
  · rw [w _ (by decide) (by decide), w _ (by decide) (by decide), e9 q (by omega)]
    intro z z2 t z3 z4
    obtain ⟨r', v1, v2, v3, c', v4, v5, v6⟩ := y3 z z2 t z3 z4
    exact ⟨r', v1, (m1 r' v1).1.trans v2, (m1 r' v1).2.1.trans v3, c', v4, (m1 r' v1).2.2.1.trans v5, by rw [hi c' t (hcl r' c' v1 v5 v4)]; exact v6⟩
theorem ThsW.same (h : ThsW n r0 mc rt K us ρ) (hS : RelS sc n mc rt hc κ ρ) (hm : Eqv sM ρ ρ') (hu : Eqv uM ρ ρ') (m1 : ∀ r, r < r0 → reE ρ ρ' r r) : ThsW n r0 mc rt K us ρ' := by
  have h12 := hS.le
  have w : ∀ a k, 1316 ≤ a → a ≤ 1325 → mI ρ' a k = mI ρ a k := fun a k x y => hu.I ⟨x, y⟩
  obtain ⟨h1, h2, h3, C, h4, h5⟩ := h
  refine ⟨fun u u1 u2 k u3 => ?_, fun u u1 u2 k k' => ?_, fun u u' u1 u2 u3 u4 k k' => ?_, C, fun r hr => ?_, fun u u1 u2 k u3 u4 => ?_⟩
  · rw [w _ _ (by decide) (by decide)] at u2
    obtain ⟨s, f, x, x1, x2, x3, x4, x5, x6, x7, x8, x9, x10⟩ := h1 u u1 u2 k u3
    refine ⟨s, f, x, x1, ?_, x3, ?_, x5, x6, ?_, ?_, fun y1 y2 => ?_, fun y1 => ?_⟩
    · rw [w _ _ (by decide) (by decide)]; exact x2
    · rw [w _ _ (by decide) (by decide)]; exact x4
    · rw [w _ _ (by decide) (by decide)]; exact x7
    · rw [w _ _ (by decide) (by decide)]; exact x8
    · obtain ⟨c, z1, z2, z3, z4, z5⟩ := x9 y1 y2
      have := hS.m16 z1
      refine ⟨c, z1, ?_, z3, fun q q1 q2 => ?_, fun q q1 => ?_⟩
      · rw [w _ _ (by decide) (by decide)]; exact z2
      · rw [w _ _ (by decide) (by decide), w _ _ (by decide) (by decide)]; exact z4 q q1 q2
      · rw [w 1324 _ (by decide) (by decide), sM.me (a := 1290) hm (by decide) (by decide) (by omega) (by omega), sM.me (a := 1291) hm (by decide) (by decide) (by omega) (by omega)]; exact z5 q q1
    · rw [w _ _ (by decide) (by decide)]
      refine ⟨(x10 y1).1, fun r hr2 => ?_⟩
      rw [(m1 r hr2).1, (m1 r hr2).2.1]
      exact (x10 y1).2 r hr2
  · rw [w _ _ (by decide) (by decide)] at u2
    rw [w _ _ (by decide) (by decide), w _ _ (by decide) (by decide), w _ _ (by decide) (by decide), w _ _ (by decide) (by decide)]
    exact h2 u u1 u2 k k'
  · rw [w _ _ (by decide) (by decide)] at u3 u4
    simp only [w 1319 _ (by decide) (by decide), w 1320 _ (by decide) (by decide), w 1321 _ (by decide) (by decide)]
    exact h3 u u' u1 u2 u3 u4 k k'
  · rw [(m1 r hr).1, (m1 r hr).2.1, (m1 r hr).2.2.1]; exact h4 r hr
  · rw [w _ _ (by decide) (by decide)] at u2 u4
    rw [w _ _ (by decide) (by decide), w _ _ (by decide) (by decide), w _ _ (by decide) (by decide)]; exact h5 u u1 u2 k u3 u4
/-- a unit is closed -/
theorem RelA.shut (hA : RelA nn sc n mc rt hc K N r0 us κ ρ) (hu : u < 4) : RelA nn sc n mc rt hc K N r0 us (sI κ (533 + 184 * u) 4 0) (sI ρ 1316 u 0) := by
  obtain ⟨⟨hC, hm, hNu⟩, xT, xF, xS, xN, xK, xR, xU, xW, xD, xY, xZ⟩ := id hA
  have hs2 := xS.s2
  have op : mI (sI ρ 1316 u 0) 1316 u = 0 := I_is _ _ _ _
  refine hA.unit (u := u) (K' := K) (us' := us) (hC.wI _ _ _) (hm.wI _ _ _) (Eqv.wI (by
    intro hh
    rcases hh with hh | hh | hh | hh | hh | hh | hh | ⟨v', hv', hn', hh⟩
    all_goals first | (rcases hh with hh | ⟨j', hj', hh⟩ <;> omega) | (obtain ⟨u', j', hu', hj', e1', e2'⟩ := hh <;> omega) | (simp only [tC, fC, sCc, kC, rC, wC, dC] at hh; omega)) _) (Eqv.wI (by
    intro hh
    rcases hh with hh | hh | hh | hh | hh | hh | ⟨v', hv', hn', hh⟩
    all_goals (simp only [tM, fM, sM, kM, rM, wM, dM, uM1] at hh; omega)) _) hu (fun _ => Nat.le_refl _) (xK.fr (Eqv.wI (by simp only [kC]; omega) _) (Eqv.wI (by simp only [kM]; omega) _)) (fun _ _ => rfl) ⟨?_, Or.inl op⟩ (fun h => ?_) (fun h => ?_) ?_
  · rw [I_is, op]
  · rw [op] at h; exact absurd h (by decide)
  · rw [op] at h; exact absurd h (by decide)
  · obtain ⟨C, q1, q2⟩ := xZ.2.2.2
    refine ⟨C, fun r hr => ?_, fun v v1 v2 k v3 v4 => ?_⟩
    · simp (disch := omega) only [I_cl]; exact q1 r hr
    · by_cases e : v = u
      · rw [e, op] at v2; exact absurd v2 (by decide)
      · rw [I_sl e] at v2
        simp (disch := omega) only [I_cl] at v4 ⊢
        exact q2 v v1 v2 k v3 v4
/-- it was broken off: the rows are as they were -/
theorem j_brk (hG : Ly G) (hA0 : RelA nn sc n mc rt hc K N1 r1 us κ0 ρ0) (hu : u < 4) (hKC : KeptC N1 κ0 κ0) (hKM : KeptM r1 ρ0 ρ0) (hB : Brk u κ0 ρ0 κ ρ) :
    ∃ out κ' ρ', (∀ ρ1 (Q : Int32 → Mem → Prop), Q out (mg κ' ρ1) → X_X10_perform_59 G Q 1269 (533 + 184 * u) (mg κ ρ1)) ∧ (∀ κ1 (Q : Int32 → Mem → Prop), Q out (mg κ1 ρ') → X_X12_writeUnit_141 G Q 1282 (nI u) (mg κ1 ρ)) ∧ RelA nn sc n mc rt hc K N1 r1 us κ' ρ' ∧ out ≠ 0 := by
  have hL := hG.1
  have hM := hG.2.2.2
  obtain ⟨⟨hC, hm⟩, gC0, gM0, hW, hne⟩ := hB
  obtain ⟨⟨hC0, hm0, hNu⟩, xT, xF, xS, xN, xK, xR, xU, xW, xD, xY, xZ⟩ := id hA0
  have hs2 := xS.s2
  have kc : ∀ a j, 1276 ≤ a → a ≤ 1280 → mI κ a j = mI κ0 a j := fun a j h1 h2 => gC0.I (by rintro (h | h | h | ⟨k, h3, h4, h5⟩) <;> omega)
  have km : ∀ a j, 1311 ≤ a → a ≤ 1315 → mI ρ a j = mI ρ0 a j := fun a j h1 h2 => gM0.I (by rintro (h | h | h) <;> omega)
  obtain ⟨κa, ra, hCa, fra, ca⟩ := c_copyFrom (N := N1) (RwS.a hL) (RwS.b hL) (Or.inl (by decide)) hC (fun f hf => ⟨(kc _ _ (by decide) (by decide)).trans (hKC f hf).1, (xR.1 f hf).2⟩)
  obtain ⟨ρa, ma, hma, frb, b1, b2, b3⟩ := m_backRows hM hm xR.le (by rw [gM0.I (by rintro (h | h | h) <;> omega)]; exact hKM.1)
  have rowC : ∀ f, f < 12 → ∀ i, i < N1 f → rwE κ0 κa (60 * f + i) (60 * f + i) := fun f hf i hi => by
    obtain ⟨v1, v2, v3, v4⟩ := (ca f hf).2 i hi
    obtain ⟨w1, w2, w3, w4⟩ := (hKC f hf).2 i hi
    refine ⟨?_, ?_, ?_, fun m hm => ?_⟩
    · rw [show (271 : Nat) = 270 + 1 from rfl, v1, kc _ _ (by decide) (by decide), w1]
    · rw [show (272 : Nat) = 270 + 2 from rfl, v2, kc _ _ (by decide) (by decide), w2]
    · rw [show (273 : Nat) = 270 + 3 from rfl, v3, kc _ _ (by decide) (by decide), w3]
    · rw [show (274 : Nat) = 270 + 4 from rfl, v4 m hm, kc _ _ (by decide) (by decide), w4 m hm]
  have rowM : ∀ r, r < r1 → reE ρ0 ρa r r := fun r hr => by
    obtain ⟨v1, v2, v3, v4⟩ := b2 r hr
    obtain ⟨w1, w2, w3, w4⟩ := hKM.2.1 r hr
    exact ⟨by rw [v1, km _ _ (by decide) (by decide), w1], by rw [v2, km _ _ (by decide) (by decide), w2], by rw [v3, km _ _ (by decide) (by decide), w3], by rw [v4, km _ _ (by decide) (by decide), w4], fun m hm => by rw [b3 _ (by omega), km _ _ (by decide) (by decide), hKM.2.2 _ (by omega)]⟩
  have gC : Eqv (fun a k => ¬ (270 ≤ a ∧ a ≤ 274 ∨ a = 1269 ∧ 4 ≤ k ∧ k ≤ 9 ∨ 1271 ≤ a ∧ a ≤ 1274 ∨ ∃ j, j < 60 ∧ a = 537 + 184 * u + 3 * j ∧ (k = 9 ∨ k = 10))) κ0 κa := gC0.tr (fra.mo fun a j h => by
    intro h2
    exact h (Or.inl h2))
  have gM : Eqv wfM ρ0 ρa := gM0.tr (frb.mo fun a j h h2 => h (by omega))
  have hWa : RelW κa ρa := hW.fr (fra.mo fun a j h => by simp only [wC] at h; omega) (frb.mo fun a j h => by simp only [wM] at h; omega)
  have smM : Eqv sM ρ0 ρa := gM.mo wf_SM
  have umM : Eqv uM ρ0 ρa := gM.mo wf_UM
  have A1 : RelA nn sc n mc rt hc K N1 r1 us κa ρa := by
    refine hA0.fr_RWYZ hCa hma (gC.mo fun a k hh => ?_) (gM.mo fun a k hh => ?_) (Nat.le_refl _) (xR.same (fun f hf => by rw [(ca f hf).1]; exact (xR.1 f hf).1.symm) rowC b1 rowM) hWa (xY.same xS smM rowM) (xZ.same xS smM umM rowM)
    · rintro (h | h | h | ⟨j, h1, h2, h3⟩) <;> rcases hh with hh | hh | hh | hh | hh | hh | hh
      all_goals first | (obtain ⟨u', hu', hh | ⟨j', hj', hh⟩⟩ := hh <;> omega) | (obtain ⟨u', j', hu', hj', e1', e2'⟩ := hh <;> omega) | (simp only [tC, fC, sCc, kC, rC, wC, dC] at hh; omega)
    · rintro (h | h | h) <;> rcases hh with hh | hh | hh | hh | hh | hh
      all_goals (simp only [tM, fM, sM, kM, rM, uM, wM, dM] at hh; omega)
  have e4 : mI κa 1269 4 = mI ρa 1282 64 := hWa.1
  have e64 : mI ρa 1282 64 ≠ 0 := by rw [frb.I (by omega)]; exact hne
  have runC : ∀ ρ1 (Q : Int32 → Mem → Prop), X_X10_perform_70 G Q 1269 (533 + 184 * u) (mg κa ρ1) → X_X10_perform_59 G Q 1269 (533 + 184 * u) (mg κ ρ1) := fun ρ1 Q h => by
    simp (disch := omega) only [X_X10_perform_59, mR_c, hL.1, hC.1, true_and]
    exact ra ρ1 _ h
  by_cases h2 : mI ρa 1282 64 = 2
  · refine ⟨2, sI κa (533 + 184 * u) 4 0, sI ρa 1316 u 0, fun ρ1 Q hQ => runC ρ1 Q ?_, fun κ1 Q hQ => ?_, A1.shut hu, by decide⟩
    · simp (disch := omega) only [X_X10_perform_70, X_X10_perform_83, mI_c, sI_c, hL.1, hL.2.1, lT, lF, tT, tF, eF, pF, zT, m1F, vT, cI, true_and, and_true, true_implies, false_implies, not_false_eq_true, not_true_eq_false, forall_eq, implies_true, e4, h2, bzT0, I_cl]
      exact hQ
    · simp (disch := omega) only [X_X12_writeUnit_141, hM.1, true_and]
      refine ma κ1 _ ?_
      simp (disch := omega) only [X_X12_writeUnit_160, mI_m, mR_m, sI_m, hM.1, hM.2, hma.1, hma.2, lT, lF, tT, tF, eF, pF, zT, m1F, vT, cI, true_and, and_true, true_implies, false_implies, not_false_eq_true, not_true_eq_false, forall_eq, implies_true, h2, narb0, I_cl]
      exact hQ
  · refine ⟨mI ρa 1282 64, κa, ρa, fun ρ1 Q hQ => runC ρ1 Q ?_, fun κ1 Q hQ => ?_, A1, e64⟩
    · simp (disch := omega) only [X_X10_perform_70, X_X10_perform_83, mI_c, hL.1, lT, lF, tT, tF, eF, pF, zT, m1F, vT, cI, true_and, and_true, true_implies, false_implies, not_false_eq_true, not_true_eq_false, forall_eq, implies_true, e4, h2]
      exact hQ
    · simp (disch := omega) only [X_X12_writeUnit_141, hM.1, true_and]
      refine ma κ1 _ ?_
      simp (disch := omega) only [X_X12_writeUnit_160, mI_m, mR_m, hM.1, lT, lF, tT, tF, eF, pF, zT, m1F, vT, cI, true_and, and_true, true_implies, false_implies, not_false_eq_true, not_true_eq_false, forall_eq, implies_true, h2]
      exact hQ
end PERFORM
