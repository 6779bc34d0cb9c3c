def upN (f : Nat → Nat) (a v : Nat) : Nat → Nat := fun g => if g = a then v else f g
theorem upN_is {f : Nat → Nat} {a v : Nat} : upN f a v a = v := if_pos rfl
theorem upN_ne {f : Nat → Nat} {a v g : Nat} (h : g ≠ a) : upN f a v g = f g := if_neg h
section CALLS8
variable {G : Lay} {nn nn' sc n r0 : Nat} {mc rt hc K K' N us : Nat → Nat} {κ κ' ρ ρ' κ1 ρ1 : Mem} {u k : Nat}
theorem j_make (hG : Ly G) (hnn : nn ≤ 512) (h : Rel nn κ ρ) (x y : Int32) : Jt nn (fun Q σ => X_X11_make G Q 1 x y σ) (fun Q σ => X_X12_make G Q 1282 x y σ) κ ρ := by
  have h0 := h
  obtain ⟨sc, n, mc, rt, hc, K, N, r0, us, hA⟩ := h
  have hL := hG.1
  have hM := hG.2.2.2
  obtain ⟨⟨hC, hm, hNu⟩, xT, xF, xS, xN, xK, xR, xU, xW, xD, xY, xZ⟩ := id hA
  have hT2 := hG.s xS.s2
  have hs2 := xS.s2
  have h12 := xS.le
  rcases unitCase xU x with ⟨u, hu, rfl, ho⟩ | hx
  · obtain ⟨o1, o2, o3, o4, o5⟩ := xU.op hu ho
    rcases clsCase n y with ⟨c, hc1, rfl⟩ | hy
    · have hrc := xS.rt12 hc1
      have hrt := (xS.cls hc1).2.1
      obtain ⟨kc, km, kn⟩ := xK (rt c) (by omega)
      have h16 := xS.m16 hc1
      by_cases h60 : us u < 60
      · obtain ⟨κ', c0, cS, c2, c3, c4, c5, c6, c7, c8, c9, c10⟩ := c_comes hG hC xU hu ho h60 2 (nI (rt c)) (nI (K (rt c) + 1))
        obtain ⟨ρ', d0, dS, d2, d3, d4, d5, d6, d7, d8, d9, d10⟩ := m_newObject (us := us) (u := u) hM (hm.wI 1310 (rt c) (nI (K (rt c) + 1))) hu (by rw [I_cl (by decide)]; exact o3) h60 2 (nI (rt c)) (nI (K (rt c) + 1))
        have kc' : mI κ' 531 (rt c) = nI (K (rt c)) := (c9 _).trans kc
        have e10 : Eqv (adM u (us u)) ρ ρ' := (Eqv.wI (fun h => h (Or.inr (Or.inr rfl))) _).tr d10
        have lowK : ∀ v, v < 4 → mI ρ 1316 v = 1 → ∀ j, j < us v → ¬ (mI ρ 1320 (60 * v + j) = nI (rt c) ∧ mI ρ 1321 (60 * v + j) = nI (K (rt c) + 1)) := by
          rintro v v1 v2 j j1 ⟨a1, a2⟩
          obtain ⟨s, f, x, y1, y2, y3, y4, y5, y6, y7, -⟩ := xZ.1 v v1 v2 j j1
          have ef : f = rt c := (eI (by omega) (by omega)).mp (y4.symm.trans a1)
          subst ef
          have := (eI (by omega) (by omega)).mp (y7.symm.trans a2)
          omega
        have cc : Eqv (adC u (us u)) κ (sI (sI κ' 531 (rt c) (nI (K (rt c) + 1))) (537 + 184 * u + 3 * us u) 4 (nI c)) := ((c10.sI (fun h => h (Or.inr (Or.inr (Or.inl rfl)))) _).sI (fun h => h (Or.inl (Or.inl ⟨rfl, by decide, by decide⟩))) _)
        have mm : Eqv (adM u (us u)) ρ (sI ρ' 1322 (60 * u + us u) (nI c)) := e10.sI (fun h => h (Or.inl (Or.inl ⟨by decide, by decide, rfl⟩))) _
        refine ⟨nI (100 * u + us u), sI (sI κ' 531 (rt c) (nI (K (rt c) + 1))) (537 + 184 * u + 3 * us u) 4 (nI c), sI ρ' 1322 (60 * u + us u) (nI c), fun ρ1 Q hQ => ?_, fun κ1 Q hQ => ?_, sc, n, mc, rt, hc, upN K (rt c) (K (rt c) + 1), N, r0, usP us u, ?_⟩
        · simp (disch := omega) only [X_X11_make_28, X_X11_make_0, X_X11_make, true_and, hL.1]
          refine c_openUnit1 hL hC xU hu ho ?_
          simp (disch := omega) only [mI_c, mR_c, mJ_c, sI_c, sJ_c, sR_c, hL.1, hL.2.1, hL.2.2, hC.1, hC.2.1, hC.2.2.1, lT, lF, tT, tF, eF, pF, zT, m1F, vT, cI, true_and, and_true, true_implies, false_implies, not_false_eq_true, not_true_eq_false, forall_eq, implies_true, xS.r13, hT2.1]
          refine c_kindAt1 hG hC xS hc1 (brF (by omega) (brF (by omega) ?_))
          simp (disch := omega) only [mI_c, mR_c, mJ_c, sI_c, sJ_c, sR_c, hL.1, hL.2.1, hL.2.2, hC.1, hC.2.1, hC.2.2.1, lT, lF, tT, tF, eF, pF, zT, m1F, vT, cI, true_and, and_true, true_implies, false_implies, not_false_eq_true, not_true_eq_false, forall_eq, implies_true, hT2.2.1, hrt, kc, nI_1]
          refine c0 _ _ (brF (by omega) ?_)
          have hrt' : mI κ' (sc + 4 + 5 * c) 2 = nI (rt c) := by rw [c10.I (by rintro ((h | h | h) | h | h | h) <;> omega)]; exact hrt
          have hnu' : mI κ' (537 + 184 * u + 3 * us u) 0 = nI (100 * u + us u) := by rw [c10.I (by rintro ((h | h | h) | h | h | h) <;> omega)]; exact hNu u (us u) hu h60
          simp (disch := omega) only [mI_c, mR_c, sI_c, hL.1, hL.2.2, cS.1, lT, lF, tT, tF, eF, pF, zT, m1F, vT, cI, true_and, and_true, true_implies, false_implies, not_false_eq_true, not_true_eq_false, forall_eq, implies_true, hrt', kc', nI_1, I_is, I_cl, I_sl, J_is, J_cl, J_sl, R_is, R_cl, R_sl, mI_sJ, mI_sR, mJ_sI, mJ_sR, mR_sI, mR_sJ, hnu']
          exact hQ
        · simp (disch := omega) only [X_X12_make_16, X_X12_make_0, X_X12_make, true_and, hM.1]
          refine m_isUnit1 hM hm hu ho (br1 (m_isClass1 hM hm xS.nM h12 hc1 (br1 ?_)))
          simp (disch := omega) only [mI_m, mR_m, hM.1, hM.2, hm.1, hm.2, lT, lF, tT, tF, eF, pF, zT, m1F, vT, cI, true_and, and_true, true_implies, false_implies, not_false_eq_true, not_true_eq_false, forall_eq, implies_true, o3, nls]
          refine m_rootOf hM hm xS hc1 ?_
          simp (disch := omega) only [mI_m, mR_m, sI_m, hM.1, hM.2, hm.1, hm.2, lT, lF, tT, tF, eF, pF, zT, m1F, vT, cI, true_and, and_true, true_implies, false_implies, not_false_eq_true, not_true_eq_false, forall_eq, implies_true, km, nI_1, I_is, I_cl, I_sl, J_is, J_cl, J_sl, R_is, R_cl, R_sl, mI_sJ, mI_sR, mJ_sI, mJ_sR, mR_sI, mR_sJ]
          refine d0 _ _ ?_
          simp (disch := omega) only [mI_m, mR_m, sI_m, hM.1, hM.2, dS.1, dS.2, lT, lF, tT, tF, eF, pF, zT, m1F, vT, cI, true_and, and_true, true_implies, false_implies, not_false_eq_true, not_true_eq_false, forall_eq, implies_true]
          exact m_numberOf hu h60 hQ
        · refine hA.add ((cS.wI _ _ _).wI _ _ _) (dS.wI _ _ _) hu ho h60 cc mm (fun g hg => ?_) (fun g => ?_) ?_ ?_ ⟨?_, ?_, ?_, ?_, ?_, fun m hm => ?_⟩ ?_ (fun j hj e => ?_) (fun e v v1 v2 v3 hn => ?_) (fun _ => ⟨fun r hr e => ?_, fun v v1 v2 k v3 e => ?_⟩)
          · obtain ⟨a1, a2, a3⟩ := xK g hg
            by_cases e : g = rt c
            · subst e
              rw [upN_is, I_cl (by omega), I_is, I_cl (by decide), d9, I_is]
              exact ⟨rfl, rfl, by omega⟩
            · rw [upN_ne e, I_cl (by omega), I_sl e, I_cl (by decide), d9, I_sl e, c9]
              exact ⟨a1, a2, by omega⟩
          · by_cases e : g = rt c
            · subst e; rw [upN_is]; omega
            · rw [upN_ne e]; omega
          · rw [I_cl (by omega), I_cl (by omega)]; exact c2
          · rw [I_cl (by decide)]; exact d2
          · rw [I_sl (by decide), I_cl (by omega), I_cl (by decide), c3, d3]
          · rw [I_sl (by decide), I_cl (by omega), I_cl (by decide), c4, d4]
          · rw [I_sl (by decide), I_cl (by omega), I_cl (by decide), c5, d5]
          · rw [I_is, I_is]
          · rw [I_sl (by decide), I_cl (by omega), I_cl (by decide), c7, d7]
          · simp (disch := omega) only [I_cl]
            rw [(c8 m hm).1, (c8 m hm).2, (d8 m hm).1, (d8 m hm).2]; exact ⟨rfl, rfl⟩
          · refine ⟨2, rt c, K (rt c) + 1, by decide, by rw [I_cl (by decide)]; exact d3, by omega, by rw [I_cl (by decide)]; exact d4, by omega, by rw [upN_is]; omega, by rw [I_cl (by decide)]; exact d5, Or.inr ⟨c, hc1, I_is _ _ _ _⟩, fun _ _ => ⟨c, hc1, I_is _ _ _ _, rfl, fun m m1 m2 => ?_, fun m m1 e => Or.inl ?_⟩, fun _ => ⟨?_, fun r hr e => ?_⟩⟩
            · rw [I_cl (by decide), I_cl (by decide)]; exact d8 m m2
            · rw [I_cl (by decide)]; exact (d8 m (by omega)).1
            · rw [I_cl (by decide)]; exact d7
            · rw [mm.I (by rintro ((h | h) | h | h) <;> omega), mm.I (by rintro ((h | h) | h | h) <;> omega)] at e
              obtain ⟨f, d, x, y1, y2, y3, y4, y5, y6, y7, y8, -⟩ := xY r hr
              have ef : f = rt c := (eI (by omega) (by omega)).mp (y2.symm.trans e.1)
              subst ef
              have := (eI (by omega) (by omega)).mp (y8.symm.trans e.2)
              omega
          · rw [I_cl (by decide), I_cl (by decide), d4, d5] at e
            exact lowK u hu ho j hj e
          · rw [I_cl (by decide), I_cl (by decide), d4, d5] at hn
            obtain ⟨j, a1, a2, a3, a4⟩ := hn
            exact lowK v v1 v3 j a1 ⟨a3, a4⟩
          · rw [I_cl (by decide), I_cl (by decide), d4, d5] at e
            obtain ⟨f, d, x, y1, y2, y3, y4, y5, y6, y7, y8, -⟩ := xY r hr
            have ef : f = rt c := (eI (by omega) (by omega)).mp (y2.symm.trans e.1)
            subst ef
            have := (eI (by omega) (by omega)).mp (y8.symm.trans e.2)
            omega
          · rw [I_cl (by decide), I_cl (by decide), d4, d5] at e
            exact lowK v v1 v2 k v3 e
      · have e60 : us u = 60 := by omega
        refine ⟨-2, κ, ρ, fun ρ1 Q hQ => ?_, fun κ1 Q hQ => ?_, h0.up⟩
        · simp (disch := omega) only [X_X11_make_28, X_X11_make_0, X_X11_make, true_and, hL.1]
          refine c_openUnit1 hL hC xU hu ho ?_
          simp (disch := omega) only [mI_c, mR_c, mJ_c, sI_c, sJ_c, sR_c, hL.1, hL.2.1, hL.2.2, hC.1, hC.2.1, hC.2.2.1, lT, lF, tT, tF, eF, pF, zT, m1F, vT, cI, true_and, and_true, true_implies, false_implies, not_false_eq_true, not_true_eq_false, forall_eq, implies_true, xS.r13, hT2.1]
          refine c_kindAt1 hG hC xS hc1 (brF (by omega) (brF (by omega) ?_))
          simp (disch := omega) only [mI_c, mR_c, mJ_c, sI_c, sJ_c, sR_c, hL.1, hL.2.1, hL.2.2, hC.1, hC.2.1, hC.2.2.1, nls, lT, lF, tT, tF, eF, pF, zT, e0F, m1F, vT, cI, nI_1, nI_add, pk_mul, true_and, and_true, true_implies, false_implies, not_false_eq_true, not_true_eq_false, bzT1, bzT0, m10, m1z, o0F, forall_eq, implies_true, if_true, if_false, hT2.2.1, hrt, kc, X_X9_comes_0, X_X9_comes, o2]
          exact hQ
        · simp (disch := omega) only [X_X12_make_16, X_X12_make_0, X_X12_make, true_and, hM.1]
          refine m_isUnit1 hM hm hu ho (br1 (m_isClass1 hM hm xS.nM h12 hc1 (br1 ?_)))
          simp (disch := omega) only [mI_m, mR_m, mJ_m, sI_m, sJ_m, hM.1, hM.2, hm.1, hm.2, nls, lT, lF, tT, tF, eF, pF, zT, e0F, m1F, vT, cI, nI_1, nI_add, pk_mul, true_and, and_true, true_implies, false_implies, not_false_eq_true, not_true_eq_false, bzT1, bzT0, m10, m1z, o0F, forall_eq, implies_true, if_true, if_false, o3, eT]
          exact hQ
    · refine ⟨-1, κ, ρ, fun ρ1 Q hQ => ?_, fun κ1 Q hQ => ?_, h0.up⟩
      · simp (disch := omega) only [X_X11_make_28, X_X11_make_0, X_X11_make, true_and, hL.1]
        refine c_openUnit1 hL hC xU hu ho ?_
        simp (disch := omega) only [mI_c, mR_c, mJ_c, sI_c, sJ_c, sR_c, hL.1, hL.2.1, hL.2.2, hC.1, hC.2.1, hC.2.2.1, lT, lF, tT, tF, eF, pF, zT, m1F, vT, cI, true_and, and_true, true_implies, false_implies, not_false_eq_true, not_true_eq_false, forall_eq, implies_true, xS.r13, hT2.1]
        exact c_kindAt0 hG hC xS hy (brF (by omega) (brT rfl hQ))
      · simp (disch := omega) only [X_X12_make_16, X_X12_make_0, X_X12_make, true_and, hM.1]
        exact m_isUnit1 hM hm hu ho (br1 (m_isClass0 hM hm xS.nM h12 hy (br0 hQ)))
  · refine ⟨-1, κ, ρ, fun ρ1 Q hQ => ?_, fun κ1 Q hQ => ?_, h0.up⟩
    · simp (disch := omega) only [X_X11_make_28, X_X11_make_0, X_X11_make, true_and, hL.1]
      refine c_openUnit0 hL hC xU hx ?_
      simp (disch := omega) only [mI_c, mR_c, mJ_c, sI_c, sJ_c, sR_c, hL.1, hL.2.1, hL.2.2, hC.1, hC.2.1, hC.2.2.1, lT, lF, tT, tF, eF, pF, zT, m1F, vT, cI, true_and, and_true, true_implies, false_implies, not_false_eq_true, not_true_eq_false, forall_eq, implies_true, xS.r13, hT2.1]
      rcases clsCase n y with ⟨c, hc1, rfl⟩ | hy
      · exact c_kindAt1 hG hC xS hc1 hQ
      · exact c_kindAt0 hG hC xS hy hQ
    · simp (disch := omega) only [X_X12_make_16, X_X12_make_0, X_X12_make, true_and, hM.1]
      exact m_isUnit0 hM hm hx (br0 hQ)
theorem j_unit (hG : Ly G) (h : Rel nn κ ρ) : Jt nn (fun Q σ => X_X11_unit G Q 1 σ) (fun Q σ => X_X12_unit G Q 1282 σ) κ ρ := by
  have h0 := h
  obtain ⟨sc, n, mc, rt, hc, K, N, r0, us, hA⟩ := h
  have hL := hG.1
  have hM := hG.2.2.2
  obtain ⟨⟨hC, hm, hNu⟩, xT, xF, xS, xN, xK, xR, xU, xW, xD, xY, xZ⟩ := id hA
  have hs2 := xS.s2
  have cs : (∃ u, u < 4 ∧ mI ρ 1316 u = 0 ∧ ∀ v, v < u → mI ρ 1316 v = 1) ∨ ∀ v, v < 4 → mI ρ 1316 v = 1 := by
    have key : ∀ d, d ≤ 4 → (∃ u, u < d ∧ mI ρ 1316 u = 0 ∧ ∀ v, v < u → mI ρ 1316 v = 1) ∨ ∀ v, v < d → mI ρ 1316 v = 1 := by
      intro d
      induction d with
      | zero => exact fun _ => Or.inr (fun v hv => by omega)
      | succ d ih =>
        intro hd
        rcases ih (by omega) with ⟨u, u1, u2⟩ | h
        · exact Or.inl ⟨u, by omega, u2⟩
        · rcases (xU d (by omega)).2 with e | e
          · exact Or.inl ⟨d, by omega, e, h⟩
          · refine Or.inr (fun v hv => ?_)
            by_cases ev : v = d
            · subst ev; exact e.1
            · exact h v (by omega)
    exact key 4 (by omega)
  rcases cs with ⟨u, hu, ho, hv⟩ | hv
  · refine ⟨nI u, sI (sI (sI κ (533 + 184 * u) 4 1) (533 + 184 * u) 5 0) (533 + 184 * u) 6 0, sI (sI (sI ρ 1316 u 1) 1317 u 0) 1318 u 0, fun ρ1 Q hQ => ?_, fun κ1 Q hQ => ?_, sc, n, mc, rt, hc, K, N, r0, upN us u 0, ?_⟩
    · simp only [X_X11_unit_0, X_X11_unit, X_X11_unit_2]
      refine Lw.at u (fun K' i hi hk' => ?_) (fun K' => ?_)
      · have e := (xU i (by omega)).1
        rw [hv i hi] at e
        simp (disch := omega) only [X_X11_unit_2_s, mI_c, mR_c, mJ_c, sI_c, sJ_c, sR_c, hL.1, hL.2.1, hL.2.2, hC.1, hC.2.1, hC.2.2.1, nls, lT, lF, tT, tF, eF, pF, zT, e0F, m1F, vT, cI, nI_1, nI_add, pk_mul, true_and, and_true, true_implies, false_implies, not_false_eq_true, not_true_eq_false, bzT1, bzT0, m10, m1z, o0F, forall_eq, implies_true, if_true, if_false, e]
        exact hk'
      · have e := (xU u (by omega)).1
        rw [ho] at e
        simp (disch := omega) only [X_X11_unit_2_s, X_X9_begin_0, X_X9_begin, mI_c, mR_c, mJ_c, sI_c, sJ_c, sR_c, hL.1, hL.2.1, hL.2.2, hC.1, hC.2.1, hC.2.2.1, nls, lT, lF, tT, tF, eF, pF, zT, e0F, m1F, vT, cI, nI_1, nI_add, pk_mul, true_and, and_true, true_implies, false_implies, not_false_eq_true, not_true_eq_false, bzT1, bzT0, m10, m1z, o0F, forall_eq, implies_true, if_true, if_false, e]
        exact hQ
    · simp only [X_X12_unit_0, X_X12_unit, X_X12_unit_2]
      refine Lw.at u (fun K' i hi hk' => ?_) (fun K' => ?_)
      · simp (disch := omega) only [X_X12_unit_2_s, mI_m, mR_m, mJ_m, sI_m, sJ_m, hM.1, hM.2, hm.1, hm.2, nls, lT, lF, tT, tF, eF, pF, zT, e0F, m1F, vT, cI, nI_1, nI_add, pk_mul, true_and, and_true, true_implies, false_implies, not_false_eq_true, not_true_eq_false, bzT1, bzT0, m10, m1z, o0F, forall_eq, implies_true, if_true, if_false, hv i hi]
        exact hk'
      · simp (disch := omega) only [X_X12_unit_2_s, mI_m, mR_m, mJ_m, sI_m, sJ_m, hM.1, hM.2, hm.1, hm.2, nls, lT, lF, tT, tF, eF, pF, zT, e0F, m1F, vT, cI, nI_1, nI_add, pk_mul, true_and, and_true, true_implies, false_implies, not_false_eq_true, not_true_eq_false, bzT1, bzT0, m10, m1z, o0F, forall_eq, implies_true, if_true, if_false, I_is, I_cl, I_sl, J_is, J_cl, J_sl, R_is, R_cl, R_sl, mI_sJ, mI_sR, mJ_sI, mJ_sR, mR_sI, mR_sJ, ho, narb1]
        exact hQ
    · have op : mI (sI (sI (sI ρ 1316 u 1) 1317 u 0) 1318 u 0) 1316 u = 1 := by rw [I_cl (by decide), I_cl (by decide), I_is]
      refine hA.unit (u := u) (K' := K) (us' := upN us u 0) (((hC.wI _ _ _).wI _ _ _).wI _ _ _) (((hm.wI _ _ _).wI _ _ _).wI _ _ _) (((Eqv.wI (by
    intro hh
    rcases hh with hh | hh | hh | hh | hh | hh | hh | ⟨v', hv', hn', hh⟩
    all_goals first | (rcases hh with hh | ⟨j', hj', hh⟩ <;> omega) | (obtain ⟨u', j', hu', hj', e1', e2'⟩ := hh <;> omega) | (simp only [tC, fC, sCc, kC, rC, wC, dC] at hh; omega)) _).sI (by
    intro hh
    rcases hh with hh | hh | hh | hh | hh | hh | hh | ⟨v', hv', hn', hh⟩
    all_goals first | (rcases hh with hh | ⟨j', hj', hh⟩ <;> omega) | (obtain ⟨u', j', hu', hj', e1', e2'⟩ := hh <;> omega) | (simp only [tC, fC, sCc, kC, rC, wC, dC] at hh; omega)) _).sI (by
    intro hh
    rcases hh with hh | hh | hh | hh | hh | hh | hh | ⟨v', hv', hn', hh⟩
    all_goals first | (rcases hh with hh | ⟨j', hj', hh⟩ <;> omega) | (obtain ⟨u', j', hu', hj', e1', e2'⟩ := hh <;> omega) | (simp only [tC, fC, sCc, kC, rC, wC, dC] at hh; omega)) _) (((Eqv.wI (by
    intro hh
    rcases hh with hh | hh | hh | hh | hh | hh | ⟨v', hv', hn', hh⟩
    all_goals (simp only [tM, fM, sM, kM, rM, wM, dM, uM1] at hh; omega)) _).sI (by
    intro hh
    rcases hh with hh | hh | hh | hh | hh | hh | ⟨v', hv', hn', hh⟩
    all_goals (simp only [tM, fM, sM, kM, rM, wM, dM, uM1] at hh; omega)) _).sI (by
    intro hh
    rcases hh with hh | hh | hh | hh | hh | hh | ⟨v', hv', hn', hh⟩
    all_goals (simp only [tM, fM, sM, kM, rM, wM, dM, uM1] at hh; omega)) _) hu (fun _ => Nat.le_refl _) ?_ (fun v hv => upN_ne hv) ⟨?_, Or.inr ⟨op, ?_, ?_, ?_, ?_, fun k hk => ?_⟩⟩ (fun _ => ⟨fun k hk => ?_, fun k k' hk => ?_⟩) (fun _ f x hn => ?_) ?_
      · refine (xK.up (Nat.le_succ _)).fr (((Eqv.wI ?_ _).sI ?_ _).sI ?_ _) (((Eqv.wI ?_ _).sI ?_ _).sI ?_ _) <;> (simp only [kC, kM]; omega)
      · rw [op, I_sl (by decide), I_sl (by decide), I_is]
      · rw [upN_is]; omega
      · rw [upN_is, I_sl (by decide), I_is]; rfl
      · rw [upN_is, I_cl (by decide), I_is]; rfl
      · rw [I_is, I_is]
      · rw [upN_is] at hk; omega
      · rw [upN_is] at hk; omega
      · rw [upN_is] at hk; omega
      · obtain ⟨k, hk, -⟩ := hn
        rw [upN_is] at hk; omega
      · obtain ⟨C, q1, q2⟩ := xZ.2.2.2
        refine ⟨C, fun r hr => ?_, fun v v1 v2 k' v3 v4 => ?_⟩
        · simp (disch := omega) only [I_cl]; exact q1 r hr
        · by_cases e : v = u
          · subst e; rw [upN_is] at v3; omega
          · rw [upN_ne e] at v3
            rw [I_cl (by decide), I_cl (by decide), I_sl e] at v2
            simp (disch := omega) only [I_cl] at v4 ⊢
            exact q2 v v1 v2 k' v3 v4
  · refine ⟨-1, κ, ρ, fun ρ1 Q hQ => ?_, fun κ1 Q hQ => ?_, h0.up⟩
    · simp only [X_X11_unit_0, X_X11_unit, X_X11_unit_2]
      refine Lw.at 4 (fun K' i hi hk' => ?_) (fun K' => ?_)
      · have e := (xU i (by omega)).1
        rw [hv i hi] at e
        simp (disch := omega) only [X_X11_unit_2_s, mI_c, mR_c, mJ_c, sI_c, sJ_c, sR_c, hL.1, hL.2.1, hL.2.2, hC.1, hC.2.1, hC.2.2.1, nls, lT, lF, tT, tF, eF, pF, zT, e0F, m1F, vT, cI, nI_1, nI_add, pk_mul, true_and, and_true, true_implies, false_implies, not_false_eq_true, not_true_eq_false, bzT1, bzT0, m10, m1z, o0F, forall_eq, implies_true, if_true, if_false, e]
        exact hk'
      · simp (disch := omega) only [X_X11_unit_2_s, mI_c, mR_c, mJ_c, sI_c, sJ_c, sR_c, hL.1, hL.2.1, hL.2.2, hC.1, hC.2.1, hC.2.2.1, nls, lT, lF, tT, tF, eF, pF, zT, e0F, m1F, vT, cI, nI_1, nI_add, pk_mul, true_and, and_true, true_implies, false_implies, not_false_eq_true, not_true_eq_false, bzT1, bzT0, m10, m1z, o0F, forall_eq, implies_true, if_true, if_false]
        exact hQ
    · simp only [X_X12_unit_0, X_X12_unit, X_X12_unit_2]
      refine Lw.at 4 (fun K' i hi hk' => ?_) (fun K' => ?_)
      · simp (disch := omega) only [X_X12_unit_2_s, mI_m, mR_m, mJ_m, sI_m, sJ_m, hM.1, hM.2, hm.1, hm.2, nls, lT, lF, tT, tF, eF, pF, zT, e0F, m1F, vT, cI, nI_1, nI_add, pk_mul, true_and, and_true, true_implies, false_implies, not_false_eq_true, not_true_eq_false, bzT1, bzT0, m10, m1z, o0F, forall_eq, implies_true, if_true, if_false, hv i hi]
        exact hk'
      · simp (disch := omega) only [X_X12_unit_2_s, mI_m, mR_m, mJ_m, sI_m, sJ_m, hM.1, hM.2, hm.1, hm.2, nls, lT, lF, tT, tF, eF, pF, zT, e0F, m1F, vT, cI, nI_1, nI_add, pk_mul, true_and, and_true, true_implies, false_implies, not_false_eq_true, not_true_eq_false, bzT1, bzT0, m10, m1z, o0F, forall_eq, implies_true, if_true, if_false]
        exact hQ
end CALLS8
