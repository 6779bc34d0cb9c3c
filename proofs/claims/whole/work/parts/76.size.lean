section SIZE
variable {G : Lay} {nn nn' sc n r0 : Nat} {mc rt hc K K' N us : Nat → Nat} {κ κ' ρ ρ' κ1 ρ1 : Mem} {u k : Nat}
theorem m_isList0 (hM : LyM G) (hm : StM ρ) (hS : RelS sc n mc rt hc κ ρ) (hu : u < 4) (hk : k < 60) {c : Nat} {y : Int32} (ec : mI ρ 1322 (60 * u + k) = nI c) (hc1 : c < n) (h : noC (mc c) y ∨ ∃ m, m < mc c ∧ y = nI m ∧ mI ρ 1290 (16 * c + m) ≠ nI 5) {Q : Int32 → Mem → Prop} (q : Q 0 (mg κ1 ρ)) : X_X12_isList G Q 1282 (nI (60 * u + k)) y (mg κ1 ρ) := by
  have h12 := hS.le
  have h16 := hS.m16 hc1
  have hmc := (hS.cls hc1).2.2.2.2.1
  rcases h with (h | ⟨m, m1, m2, rfl⟩) | ⟨m, m1, rfl, h⟩
  · simp only [X_X12_isList_19, X_X12_isList_198, X_X12_isList_187, X_X12_isList_300, X_X12_isList_0, X_X12_isList]
    exact brT h ⟨bz0, q⟩
  · simp (disch := omega) only [X_X12_isList_19, X_X12_isList_198, X_X12_isList_187, X_X12_isList_300, X_X12_isList_0, X_X12_isList, nls, mI_m, mR_m, hM.1, hM.2, hm.1, hm.2, lT, lF, tT, tF, eF, pF, zT, m1F, vT, cI, true_and, and_true, true_implies, false_implies, not_false_eq_true, not_true_eq_false, forall_eq, implies_true, ec, hmc, bzT0]
    exact q
  · simp (disch := omega) only [X_X12_isList_19, X_X12_isList_198, X_X12_isList_187, X_X12_isList_300, X_X12_isList_0, X_X12_isList, nls, pk_mul, nI_add, mI_m, mR_m, hM.1, hM.2, hm.1, hm.2, lT, lF, tT, tF, eF, pF, zT, m1F, vT, cI, true_and, and_true, true_implies, false_implies, not_false_eq_true, not_true_eq_false, forall_eq, implies_true, ec, hmc, bzT0]
    exact brF h q
/-- a list, both sides -/
theorem j_lst (hG : Ly G) (hA : RelA nn sc n mc rt hc K N r0 us κ ρ) (hu : u < 4) (ho : mI ρ 1316 u = 1) (hk : k < us u) {c m : Nat} (ec : mI ρ 1322 (60 * u + k) = nI c) (hc1 : c < n) (hm1 : m < mc c) (e5 : mI ρ 1290 (16 * c + m) = nI 5) :
    ∃ t a a' tt, t ≤ 120 ∧ tt < n ∧ mI ρ 1291 (16 * c + m) = nI tt ∧ mI κ (mR κ (sc + 5 + 5 * c) m) 8 = nI tt ∧ RunC (fun Q σ => X_X9_gather G Q (533 + 184 * u) (537 + 184 * u + 3 * k) (mR κ (sc + 5 + 5 * c) m) σ) κ (nI t) (sA κ (536 + 184 * u) a) ∧ RunM (fun Q σ => X_X12_isList G Q 1282 (nI (60 * u + k)) (nI m) σ) ρ 1 (kl ρ a' t) ∧ (∀ i, i < t → a i = a' i) ∧ (∀ i, i < t → ∃ x, 1 ≤ x ∧ x ≤ K (rt tt) ∧ a' i = nI x) ∧ RelA nn sc n mc rt hc K N r0 us (sA κ (536 + 184 * u) a) (kl ρ a' t) := by
  obtain ⟨⟨hC, hm, hNu⟩, xT, xF, xS, xN, xK, xR, xU, xW, xD, xY, xZ⟩ := id hA
  have h12 := xS.le
  obtain ⟨g3, g4, g5⟩ := memT hG xS hc1 hm1
  obtain ⟨q0, q1, q2, q3, q5, q8, q11⟩ := xS.mem hc1 hm1
  obtain ⟨⟨kk, k5, ek, k3, -, kt⟩, -⟩ := xS.mw hc1 hm1
  have ekk : kk = 5 := (eI (b := 5) (by omega) (by decide)).mp (ek.symm.trans e5)
  subst ekk
  obtain ⟨tt, htt, et, kb⟩ := kt (by omega)
  obtain ⟨b, hb, eb, -⟩ := kb rfl
  have hb16 := xS.m16 htt
  obtain ⟨o1, o2, o3, o4, o5⟩ := xU.op hu ho
  obtain ⟨t1, t2, t3, t4, t5, t6⟩ := o5 k hk
  have q8' : mI κ (mR κ (sc + 5 + 5 * c) m) 8 = nI tt := (q8 (by rw [e5]; decide)).trans et
  have q11' : mI κ (mR κ (sc + 5 + 5 * c) m) 11 = nI b := (q11 e5).trans eb
  obtain ⟨t, a, ht, c0, s1⟩ := c_gather (x := mI ρ 1321 (60 * u + k)) hG hA hu ho hk g4 g3 htt (show b < 16 by omega) q8' q11' t3
  obtain ⟨t', a', ht', d0, s2⟩ := m_isList1 (x := mI ρ 1321 (60 * u + k)) hG hA hu ho hk ec hc1 hm1 e5 htt (show b < 16 by omega) et eb rfl
  obtain ⟨ett, ea⟩ := s1.uni s2
  subst ett
  have hrt := xS.rt12 htt
  refine ⟨t, a, a', tt, ht, htt, et, q8', c0, d0, ea, fun i hi => ?_, (hA.scL hu a).scM a' (nI t)⟩
  rcases s2.2.1 i hi with ⟨i', i1, ⟨d, d0, d1, d2, d3, d4⟩, e⟩ | ⟨j', j1, j2, e⟩
  · obtain ⟨r, hr, w1, w2, -⟩ := xR.2.2.2.2.1 (rt tt) (by omega) i' i1
    obtain ⟨f', d', x', y1, y2, y3, y4, y5, y6, y7, y8, -⟩ := xY r hr
    have ef : f' = rt tt := (eI (by omega) (by omega)).mp (y2.symm.trans w1)
    subst ef
    exact ⟨x', y6, y7, by rw [← e, w2, y8]⟩
  · have hf := hA.fam hu ho j1 j2
    obtain ⟨s, f', x', y1, y2, y3, y4, y5, y6, y7, -⟩ := xZ.1 u hu ho j' j1
    have ef : f' = rt tt := (eI (by omega) (by omega)).mp (y4.symm.trans hf)
    subst ef
    exact ⟨x', y5, y6, by rw [← e, y7]⟩
/-- how many are in a list: what both sides do, up to the list -/
theorem j_sz (hG : Ly G) (hA : RelA nn sc n mc rt hc K N r0 us κ ρ) (o y : Int32) :
    (∃ u k c m tt t a' κ' ρ' ρ2, u < 4 ∧ k < us u ∧ us u ≤ 60 ∧ o = nI (100 * u + k) ∧ y = nI m ∧ mI ρ2 1316 u = 1 ∧ mI ρ2 1322 (60 * u + k) = nI c ∧ c < n ∧ m < mc c ∧ tt < n ∧ mI ρ2 1291 (16 * c + m) = nI tt ∧ t ≤ 120 ∧ mI κ' (mR κ' (sc + 5 + 5 * c) m) 8 = nI tt ∧ RelA nn sc n mc rt hc K N r0 us κ' ρ2 ∧ RunC (fun Q σ => X_X11_size G Q 1 o y σ) κ (nI t) κ' ∧ RunM (fun Q σ => X_X12_liveOf G Q 1282 o σ) ρ (nI (60 * u + k)) ρ' ∧ RunM (fun Q σ => X_X12_isList G Q 1282 (nI (60 * u + k)) y σ) ρ' 1 ρ2 ∧ mI ρ2 1282 60 = nI t ∧ mI ρ2 1327 = a' ∧ (∀ i, i < t → mI κ' (536 + 184 * u) i = a' i) ∧ (∀ i, i < t → ∃ x, 1 ≤ x ∧ x ≤ K (rt tt) ∧ a' i = nI x)) ∨
    (∃ κ' ρ', RelA nn sc n mc rt hc K N r0 us κ' ρ' ∧ RunC (fun Q σ => X_X11_size G Q 1 o y σ) κ (-1) κ' ∧ (RunM (fun Q σ => X_X12_liveOf G Q 1282 o σ) ρ (-1) ρ' ∨ ∃ p, p < 240 ∧ RunM (fun Q σ => X_X12_liveOf G Q 1282 o σ) ρ (nI p) ρ' ∧ RunM (fun Q σ => X_X12_isList G Q 1282 (nI p) y σ) ρ' 0 ρ')) := by
  have hL := hG.1
  have hM := hG.2.2.2
  obtain ⟨κ', ρ', hA', hj⟩ := j_live hG hA o
  obtain ⟨⟨hC, hm, hNu⟩, xT, xF, xS, xN, xK, xR, xU, xW, xD, xY, xZ⟩ := id hA'
  have h12 := xS.le
  rcases hj with ⟨u, k, hu, hk, h60, ho, rfl, hl, c0, d0, -⟩ | ⟨c0, d0⟩
  · obtain ⟨f, f1, f2, c, c1, c2, c3, c4, c5⟩ := hA'.liv hu ho hk hl
    obtain ⟨-, ⟨-, -, -, t4, -, t6⟩, -⟩ := hA'.th hu ho hk
    rw [c2] at t4
    have h16 := xS.m16 c1
    have e1 : (100 * u + k) / 100 = u := by omega
    rcases clsCase (mc c) y with ⟨m, hm1, rfl⟩ | hz
    · obtain ⟨g3, g4, g5⟩ := memT hG xS c1 hm1
      obtain ⟨q0, q1, q2, q3, q5, q8, q11⟩ := xS.mem c1 hm1
      by_cases e5 : mI ρ' 1290 (16 * c + m) = nI 5
      · obtain ⟨t, a, a', tt, ht, htt, et, q8', l0, l1, l2, l3, l4⟩ := j_lst hG hA' hu ho hk c2 c1 hm1 e5
        rw [e5] at q2
        refine Or.inl ⟨u, k, c, m, tt, t, a', sA κ' (536 + 184 * u) a, ρ', kl ρ' a' t, hu, hk, h60, rfl, rfl, ?_, ?_, c1, hm1, htt, ?_, ht, ?_, l4, fun ρ1 Q hQ => ?_, d0, l1, kl_60 _ _ _, kl_k _ _ _, fun i hi => ?_, l3⟩
        · rw [kl_cl (by decide) (by decide)]; exact ho
        · rw [kl_cl (by decide) (by decide)]; exact c2
        · rw [kl_cl (by decide) (by decide)]; exact et
        · rw [sA_R, sA_cl (by omega)]; exact q8'
        · simp (disch := omega) only [X_X11_size_32, X_X11_size_0, X_X11_size, true_and, hL.1]
          refine c0 _ _ (c_memberOf hG hC xS hu (by omega) t4 (c_memberAt1 hG hC xS c1 hm1 (brF (by omega) (brF (by omega) ?_))))
          simp (disch := omega) only [mI_c, mR_c, mJ_c, sI_c, sJ_c, sR_c, hL.1, hL.2.1, hL.2.2, hC.1, hC.2.1, hC.2.2.1, nls, lT, lF, tT, tF, eF, pF, zT, e0F, m1F, vT, cI, nI_1, nI_add, pk_mul, true_and, and_true, true_implies, false_implies, not_false_eq_true, not_true_eq_false, bzT1, bzT0, m10, m1z, o0F, forall_eq, implies_true, if_true, if_false, dI, e1, q2, g3]
          exact l0 _ _ hQ
        · rw [sA_is]; exact l2 i hi
      · refine Or.inr ⟨κ', ρ', hA', fun ρ1 Q hQ => ?_, Or.inr ⟨60 * u + k, by omega, d0, fun κ1 Q hQ => m_isList0 hM hm xS hu (by omega) c2 c1 (Or.inr ⟨m, hm1, rfl, e5⟩) hQ⟩⟩
        simp (disch := omega) only [X_X11_size_32, X_X11_size_0, X_X11_size, true_and, hL.1]
        refine c0 _ _ (c_memberOf hG hC xS hu (by omega) t4 (c_memberAt1 hG hC xS c1 hm1 (brF (by omega) (brF (by omega) ?_))))
        simp (disch := omega) only [mI_c, q2, g3, true_and]
        exact brF e5 hQ
    · refine Or.inr ⟨κ', ρ', hA', fun ρ1 Q hQ => ?_, Or.inr ⟨60 * u + k, by omega, d0, fun κ1 Q hQ => m_isList0 hM hm xS hu (by omega) c2 c1 (Or.inl hz) hQ⟩⟩
      simp (disch := omega) only [X_X11_size_32, X_X11_size_0, X_X11_size, true_and, hL.1]
      exact c0 _ _ (c_memberOf hG hC xS hu (by omega) t4 (c_memberAt0 hG hC xS (Or.inr ⟨c, c1, rfl, hz⟩) (brF (by omega) (brT rfl hQ))))
  · refine Or.inr ⟨κ', ρ', hA', fun ρ1 Q hQ => ?_, Or.inl d0⟩
    simp (disch := omega) only [X_X11_size_32, X_X11_size_0, X_X11_size, true_and, hL.1]
    exact c0 _ _ (c_memberOf0 (brT (by trivial) hQ))
theorem j_size (hG : Ly G) (h : Rel nn κ ρ) (o y : Int32) : Jt nn (fun Q σ => X_X11_size G Q 1 o y σ) (fun Q σ => X_X12_size G Q 1282 o y σ) κ ρ := by
  obtain ⟨sc, n, mc, rt, hc, K, N, r0, us, hA⟩ := h
  have hM := hG.2.2.2
  rcases j_sz hG hA o y with ⟨u, k, c, m, tt, t, a', κ', ρ', ρ2, hu, hk, h60, eo, ey, ho, ec, hc1, hm1, htt, et, ht, e8, hA2, r1, r2, r3, l1, -⟩ | ⟨κ', ρ', hA2, r1, r2⟩
  · refine ⟨nI t, κ', ρ2, r1, fun κ1 Q hQ => ?_, Rel.up ⟨sc, n, mc, rt, hc, K, N, r0, us, hA2⟩⟩
    simp (disch := omega) only [X_X12_size_27, X_X12_size_26, X_X12_size_0, X_X12_size, true_and, hM.1]
    refine r2 _ _ (brF (pI (by omega)) (r3 _ _ (br1 ?_)))
    simp (disch := omega) only [mI_m, l1]
    exact hQ
  · refine ⟨-1, κ', ρ', r1, fun κ1 Q hQ => ?_, Rel.up ⟨sc, n, mc, rt, hc, K, N, r0, us, hA2⟩⟩
    simp (disch := omega) only [X_X12_size_27, X_X12_size_26, X_X12_size_0, X_X12_size, true_and, hM.1]
    rcases r2 with r2 | ⟨p, hp, r2, r3⟩
    · exact r2 _ _ (brT (by decide) hQ)
    · exact r2 _ _ (brF (pI (by omega)) (r3 _ _ (br0 hQ)))
end SIZE
