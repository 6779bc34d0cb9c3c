section CALLS6
variable {G : Lay} {nn nn' sc n r0 : Nat} {mc rt hc K K' N us : Nat → Nat} {κ κ' ρ ρ' κ1 ρ1 : Mem} {u k : Nat}
theorem c_usable0 (hG : Ly G) (hC : StC κ) (hU : RelU us κ ρ) {Q : Nat → Mem → Prop} {o : Int32} (h : noT us ρ o) (q : Q 0 (mg κ ρ1)) : X_X11_usableThing G Q 1 o (mg κ ρ1) := by
  have hL := hG.1
  simp (disch := omega) only [X_X11_usableThing_37, X_X11_usableThing_0, X_X11_usableThing, lT, lF, tT, tF, eF, pF, zT, m1F, vT, cI, true_and, and_true, true_implies, false_implies, not_false_eq_true, not_true_eq_false, forall_eq, implies_true, hL.1]
  exact c_thing0 hL hC hU h (brT rfl q)
theorem j_link (hG : Ly G) (h : Rel nn κ ρ) (o y z : Int32) : Jt nn (fun Q σ => X_X11_link G Q 1 o y z σ) (fun Q σ => X_X12_link G Q 1282 o y z σ) κ ρ := by
  obtain ⟨sc, n, mc, rt, hc, K, N, r0, us, hA⟩ := h
  have hL := hG.1
  have hM := hG.2.2.2
  obtain ⟨κ', ρ', hA', hj⟩ := j_live hG hA o
  have hR' : Rel (nn + 1) κ' ρ' := Rel.up ⟨sc, n, mc, rt, hc, K, N, r0, us, hA'⟩
  obtain ⟨⟨hC, hm, hNu⟩, xT, xF, xS, xN, xK, xR, xU, xW, xD, xY, xZ⟩ := id hA'
  have hT2 := hG.s xS.s2
  rcases hj with ⟨u, k, hu, hk, h60, ho, rfl, hl, c0, d0, -⟩ | ⟨c0, d0⟩
  · obtain ⟨f, f1, f2, c, c1, c2, c3, c4, c5⟩ := hA'.liv hu ho hk hl
    obtain ⟨-, ⟨-, -, -, t4, -, t6⟩, -⟩ := hA'.th hu ho hk
    rw [c2] at t4
    have h12 := xS.le
    have h16 := xS.m16 c1
    have hmc := (xS.cls c1).2.2.2.2.1
    have e1 : (100 * u + k) / 100 = u := by omega
    have e6 : (60 * u + k) / 60 = u := by omega
    rcases clsCase (mc c) y with ⟨m, hm1, rfl⟩ | hz
    · obtain ⟨g3, g4, g5⟩ := memT hG xS c1 hm1
      obtain ⟨q0, q1, q2, q3, q5, q8, q11⟩ := xS.mem c1 hm1
      obtain ⟨⟨kk, k5, ek, k3, -, kt⟩, -⟩ := xS.mw c1 hm1
      rw [ek] at q2 q8
      by_cases h4 : kk = 4
      · subst h4
        obtain ⟨t, ht, et, -⟩ := kt (by omega)
        rw [et] at q8
        have q8' := q8 (Int32.le_refl _)
        by_cases hz1 : z = -1
        · subst hz1
          refine ⟨1, _, _, fun ρ1 Q hQ => ?_, fun κ1 Q hQ => ?_, Rel.up ⟨sc, n, mc, rt, hc, K, N, r0, us, hA'.val hu ho hk c2 c1 hm1 0 (fun e => Or.inl rfl)⟩⟩
          · simp (disch := omega) only [X_X11_link_35, X_X11_link_67, X_X11_link_104, X_X11_link_0, X_X11_link, true_and, hL.1]
            refine c0 _ _ (c_memberOf hG hC xS hu (by omega) t4 (c_memberAt1 hG hC xS c1 hm1 (brF (by omega) (brF (by omega) ?_))))
            simp (disch := omega) only [mI_c, mR_c, mJ_c, sI_c, sJ_c, sR_c, hL.1, hL.2.1, hL.2.2, hC.1, hC.2.1, hC.2.2.1, nls, lT, lF, tT, tF, eF, pF, zT, e0F, m1F, vT, cI, nI_1, nI_add, pk_mul, true_and, and_true, true_implies, false_implies, not_false_eq_true, not_true_eq_false, bzT1, bzT0, m10, m1z, o0F, forall_eq, implies_true, if_true, if_false, q2, g3]
            exact hQ
          · simp (disch := omega) only [X_X12_link_32, X_X12_link_106, X_X12_link_145, X_X12_link_0, X_X12_link, true_and, hM.1]
            refine d0 _ _ (brF (pI (by omega)) (brF (pI (by omega)) ?_))
            simp (disch := omega) only [mI_m, mR_m, mJ_m, sI_m, sJ_m, hM.1, hM.2, hm.1, hm.2, nls, lT, lF, tT, tF, eF, pF, zT, e0F, m1F, vT, cI, nI_1, nI_add, pk_mul, true_and, and_true, true_implies, false_implies, not_false_eq_true, not_true_eq_false, bzT1, bzT0, m10, m1z, o0F, forall_eq, implies_true, if_true, if_false, c2, hmc, ek]
            exact hQ
        · have cHead : ∀ (ρ1 : Mem) (Q : Int32 → Mem → Prop), ((z < 0 → Q 0 (mg κ' ρ1)) ∧ (¬ z < 0 → ((z / nI 100 = nI u → X_X11_usableThing G (fun w8 s7 => ((w8 = 0 → X_X11_link_104 G Q s7) ∧ (¬ w8 = 0 → gT G (mR s7 1 6) = 6 ∧ gT G w8 = 8 ∧ gT G (mR s7 (mR s7 1 6) 0) = 7 ∧ X_X6_isOf G (fun w13 s12 => ((w13 = 0 → X_X11_link_104 G Q s12) ∧ (¬ w13 = 0 → gT G (537 + 184 * u + 3 * k) = 8 ∧ gT G (mR s12 (537 + 184 * u + 3 * k) 6) = 100 ∧ vp_in (nI m) (gL G (mR s12 (537 + 184 * u + 3 * k) 6)) ∧ ∀ s17, s17 = sI s12 (mR s12 (537 + 184 * u + 3 * k) 6) (nI m).toNatClampNeg (mI s12 w8 3) → (bz (1 : Int32) ∧ Q (1 : Int32) s17)))) (mR s7 (mR s7 1 6) 0) (mI s7 w8 4) (mI s7 (mR κ' (sc + 5 + 5 * c) m) 8) s7))) 1 z (mg κ' ρ1)) ∧ (¬ z / nI 100 = nI u → Q 0 (mg κ' ρ1))))) → X_X11_link G Q 1 (nI (100 * u + k)) (nI m) z (mg κ ρ1) := by
            intro ρ1 Q hQ
            simp (disch := omega) only [X_X11_link, X_X11_link_0, X_X11_link_35, X_X11_link_67, true_and, hL.1]
            refine c0 _ _ (c_memberOf hG hC xS hu (by omega) t4 (c_memberAt1 hG hC xS c1 hm1 (brF (by omega) (brF (by omega) ?_))))
            simp (disch := omega) only [mI_c, g3, q2, nls, dI, e1, bzT0, true_and]
            exact brT trivial (brF hz1 hQ)
          have mHead : ∀ (κ1 : Mem) (Q : Int32 → Mem → Prop), X_X12_placeOf G (fun w11 s10 => ((w11 < 0 → Q 0 s10) ∧ (¬ w11 < 0 → ((w11 / nI 60 = nI u → X_X12_load G (fun s12 => X_X12_isLive G (fun w14 s13 => ((w14 = 0 → X_X12_link_145 G Q s13) ∧ (¬ w14 = 0 → gT G (mR s13 1282 45) = 100 ∧ vp_in w11 (gL G (mR s13 1282 45)) ∧ gT G (mR s13 1282 10) = 100 ∧ vp_in (nI (16 * c + m)) (gL G (mR s13 1282 10)) ∧ X_X12_isA G (fun w20 s19 => ((w20 = 0 → X_X12_link_145 G Q s19) ∧ (¬ w20 = 0 → gT G (mR s19 1282 44) = 100 ∧ vp_in w11 (gL G (mR s19 1282 44)) ∧ gT G (mR s19 1282 47) = 100 ∧ vp_in (nI (16 * (60 * u + k) + m)) (gL G (mR s19 1282 47)) ∧ ∀ s25, s25 = sI s19 (mR s19 1282 47) (16 * (60 * u + k) + m) (mI s19 (mR s19 1282 44) w11.toNatClampNeg) → (bz (1 : Int32) ∧ Q (1 : Int32) s25)))) 1282 (0 : Int32) (mI s13 (mR s13 1282 45) w11.toNatClampNeg) (mI s13 (mR s13 1282 10) (16 * c + m)) s13))) 1282 w11 s12) 1282 w11 s10) ∧ (¬ w11 / nI 60 = nI u → Q 0 s10))))) 1282 z (mg κ1 ρ') → X_X12_link G Q 1282 (nI (100 * u + k)) (nI m) z (mg κ1 ρ) := by
            intro κ1 Q hQ
            simp (disch := omega) only [X_X12_link, X_X12_link_0, X_X12_link_32, X_X12_link_106, true_and, hM.1]
            refine d0 _ _ (brF (pI (by omega)) (brF (pI (by omega)) ?_))
            simp (disch := omega) only [mI_m, mR_m, hM.1, hM.2, hm.1, hm.2, nls, pk_mul, nI_add, dI, e6, cI, vT, c2, hmc, ek, tT, true_and, true_implies, bzT0, not_true_eq_false, false_implies, and_true]
            exact brF hz1 hQ
          rcases thCase xU z with ⟨u2, k2, hu2, ho2, hk2, h602, rfl⟩ | hno
          · have e12 : (100 * u2 + k2) / 100 = u2 := by omega
            have e62 : (60 * u2 + k2) / 60 = u2 := by omega
            by_cases huu : u2 = u
            · subst huu
              obtain ⟨κ'', ρ'', l0, l1, hA2, s2, l2, l3, l4, l5, l6, l7⟩ := j_load hG hA' hu2 ho2 hk2
              have hR2 : Rel (nn + 1) κ'' ρ'' := Rel.up ⟨sc, n, mc, rt, hc, K, N, r0, us, hA2⟩
              have ho3 : mI ρ'' 1316 u2 = 1 := by rw [l3.I (by rintro ((h | h) | h) <;> omega)]; exact ho
              obtain ⟨⟨hC2, hm2, hNu2⟩, zT, zF, zS, zN, zK, zR, zU, zW, zD, zY, zZ⟩ := id hA2
              obtain ⟨-, ⟨tt1, tt2, tt3, tt4, -⟩, ss, ff, xx, a1, a2, a3, a4, a5, a6, a7, a8, a9, a10⟩ := hA2.th hu2 ho3 hk2
              have ek2 : mI ρ'' 1290 (16 * c + m) = nI 4 := by rw [l3.I (by rintro ((h | h) | h) <;> omega)]; exact ek
              have et2 : mI ρ'' 1291 (16 * c + m) = nI t := by rw [l3.I (by rintro ((h | h) | h) <;> omega)]; exact et
              have c2' : mI ρ'' 1322 (60 * u2 + k) = nI c := by
                by_cases e : k2 = k
                · subst e
                  have s1 : mI ρ' 1319 (60 * u2 + k2) ≠ 0 := by
                    rcases hl with e | e <;> (rw [e]; decide)
                  rw [(l7 s1).2]; exact c2
                · rw [l3.I (by rintro ((h | h) | h) <;> omega)]; exact c2
              have q8'' : mI κ'' (mR κ' (sc + 5 + 5 * c) m) 8 = nI t := by rw [l2.I (by rintro ((h | h | h) | h) <;> omega)]; exact q8'
              by_cases hl2 : LiveS ρ'' (60 * u2 + k2)
              · obtain ⟨f', f1', f2', c', c1', c2'', c3', c4', c5'⟩ := hA2.liv hu2 ho3 hk2 hl2
                rw [c2''] at tt4
                have cRun : ∀ (ρ1 : Mem) (Q : Nat → Mem → Prop), Q (537 + 184 * u2 + 3 * k2) (mg κ'' ρ1) → X_X11_usableThing G Q 1 (nI (100 * u2 + k2)) (mg κ' ρ1) := by
                  intro ρ1 Q hQ
                  simp (disch := omega) only [X_X11_usableThing_37, X_X11_usableThing_0, X_X11_usableThing, lT, lF, tT, tF, eF, pF, zT, m1F, vT, cI, true_and, and_true, true_implies, false_implies, not_false_eq_true, not_true_eq_false, forall_eq, implies_true, nls, dI, e12, hL.1]
                  refine c_thing1 hL hC xU hu2 ho2 hk2 (brF (by omega) ?_)
                  simp (disch := omega) only [mI_c, mR_c, mJ_c, sI_c, sJ_c, sR_c, hL.1, hL.2.1, hL.2.2, hC.1, hC.2.1, hC.2.2.1, lT, lF, tT, tF, eF, pF, zT, m1F, vT, cI, true_and, and_true, true_implies, false_implies, not_false_eq_true, not_true_eq_false, forall_eq, implies_true]
                  refine l0 _ _ (c_isLive1 hL hu2 (by omega) (by rw [tt1]; exact hl2) (br1 hQ))
                cases hisa : isa (par ρ'') c' t
                · refine ⟨0, κ'', ρ'', fun ρ1 Q hQ => cHead ρ1 Q (brF (pI (by omega)) ?_), fun κ1 Q hQ => mHead κ1 Q (m_place1 hM hm xU hu2 ho2 hk2 (brF (pI (by omega)) ?_)), hR2⟩
                  · simp (disch := omega) only [dI, e12]
                    refine brT trivial (cRun _ _ (brF (by omega) ?_))
                    simp (disch := omega) only [mI_c, mR_c, hL.1, hL.2.2, hC2.1, zS.r13, hT2.1, tt4, q8'', true_and, X_X11_link_104, bzT0]
                    exact c_isOf' hG hC2 zS c1' (by omega) (fun e => by rw [hisa] at e; cases e) (fun _ => br0 hQ)
                  · simp (disch := omega) only [dI, e62]
                    refine brT trivial (l1 _ _ (m_isLive1 hM hm2 (by omega) hl2 (br1 ?_)))
                    simp (disch := omega) only [mI_m, mR_m, hM.1, hM.2, hm2.1, hm2.2, lT, lF, tT, tF, eF, pF, zT, m1F, vT, cI, true_and, and_true, true_implies, false_implies, not_false_eq_true, not_true_eq_false, forall_eq, implies_true, c2'', et2, X_X12_link_145, bzT0]
                    exact m_isA0 hM hm2 zS.par zS.le c1' (by omega) (fun e => by rw [hisa] at e; cases e) (fun _ => br0 hQ)
                · have hkey : xx ≤ K (rt t) := by
                    have r1 := isa_rt zS c' c1' hisa
                    have : ff = f' := (eI (by omega) (by omega)).mp (a4.symm.trans f2')
                    rw [← r1, c3', ← this]; exact a6
                  refine ⟨1, _, _, fun ρ1 Q hQ => cHead ρ1 Q (brF (pI (by omega)) ?_), fun κ1 Q hQ => mHead κ1 Q (m_place1 hM hm xU hu2 ho2 hk2 (brF (pI (by omega)) ?_)), Rel.up ⟨sc, n, mc, rt, hc, K, N, r0, us, hA2.val hu2 ho3 hk c2' c1 hm1 (nI xx) (fun e => Or.inr ⟨xx, t, ht, et2, a5, hkey, rfl⟩)⟩⟩
                  · simp (disch := omega) only [dI, e12]
                    refine brT trivial (cRun _ _ (brF (by omega) ?_))
                    simp (disch := omega) only [mI_c, mR_c, hL.1, hL.2.2, hC2.1, zS.r13, hT2.1, tt4, q8'', true_and]
                    refine c_isOf' hG hC2 zS c1' (by omega) (fun _ => br1 ?_) (fun e => by rw [hisa] at e; cases e)
                    simp (disch := omega) only [mI_c, mR_c, sI_c, hL.2.2, hC2.2.2.1, lT, lF, tT, tF, eF, pF, zT, m1F, vT, cI, true_and, and_true, true_implies, false_implies, not_false_eq_true, not_true_eq_false, forall_eq, implies_true, tt3, a7, bzT1]
                    exact hQ
                  · simp (disch := omega) only [dI, e62]
                    refine brT trivial (l1 _ _ (m_isLive1 hM hm2 (by omega) hl2 (br1 ?_)))
                    simp (disch := omega) only [mI_m, mR_m, hM.1, hM.2, hm2.1, hm2.2, lT, lF, tT, tF, eF, pF, zT, m1F, vT, cI, true_and, and_true, true_implies, false_implies, not_false_eq_true, not_true_eq_false, forall_eq, implies_true, c2'', et2]
                    refine m_isA0 hM hm2 zS.par zS.le c1' (by omega) (fun _ => br1 ?_) (fun e => by rw [hisa] at e; cases e)
                    simp (disch := omega) only [mI_m, mR_m, sI_m, hM.1, hM.2, hm2.1, hm2.2, lT, lF, tT, tF, eF, pF, zT, m1F, vT, cI, true_and, and_true, true_implies, false_implies, not_false_eq_true, not_true_eq_false, forall_eq, implies_true, a7, bzT1]
                    exact hQ
              · refine ⟨0, κ'', ρ'', fun ρ1 Q hQ => cHead ρ1 Q (brF (pI (by omega)) ?_), fun κ1 Q hQ => mHead κ1 Q (m_place1 hM hm xU hu2 ho2 hk2 (brF (pI (by omega)) ?_)), hR2⟩
                · simp (disch := omega) only [dI, e12]
                  refine brT trivial ?_
                  simp (disch := omega) only [X_X11_usableThing_37, X_X11_usableThing_0, X_X11_usableThing, lT, lF, tT, tF, eF, pF, zT, m1F, vT, cI, true_and, and_true, true_implies, false_implies, not_false_eq_true, not_true_eq_false, forall_eq, implies_true, nls, dI, e12, hL.1]
                  refine c_thing1 hL hC xU hu2 ho2 hk2 (brF (by omega) ?_)
                  simp (disch := omega) only [mI_c, mR_c, mJ_c, sI_c, sJ_c, sR_c, hL.1, hL.2.1, hL.2.2, hC.1, hC.2.1, hC.2.2.1, lT, lF, tT, tF, eF, pF, zT, m1F, vT, cI, true_and, and_true, true_implies, false_implies, not_false_eq_true, not_true_eq_false, forall_eq, implies_true]
                  exact l0 _ _ (c_isLive0 hL hu2 (by omega) (by rw [tt1]; exact hl2) (br0 ⟨bz0, hQ⟩))
                · simp (disch := omega) only [dI, e62]
                  exact brT trivial (l1 _ _ (m_isLive0 hM hm2 (by omega) hl2 (br0 ⟨bz0, hQ⟩)))
            · refine ⟨0, κ', ρ', fun ρ1 Q hQ => cHead ρ1 Q (brF (pI (by omega)) ?_), fun κ1 Q hQ => mHead κ1 Q (m_place1 hM hm xU hu2 ho2 hk2 (brF (pI (by omega)) ?_)), hR'⟩
              · simp (disch := omega) only [dI, e12, eF]
                exact brF (by simp) hQ
              · simp (disch := omega) only [dI, e62, eF]
                exact brF (by simp) hQ
          · refine ⟨0, κ', ρ', fun ρ1 Q hQ => cHead ρ1 Q ⟨fun _ => hQ, fun _ => ⟨fun _ => c_usable0 hG hC xU hno (brT rfl ⟨bz0, hQ⟩), fun _ => hQ⟩⟩, fun κ1 Q hQ => mHead κ1 Q (m_place0 hM hm xU hno (brT (by decide) hQ)), hR'⟩
      · refine ⟨0, κ', ρ', fun ρ1 Q hQ => ?_, fun κ1 Q hQ => ?_, hR'⟩
        · simp (disch := omega) only [X_X11_link_35, X_X11_link_67, X_X11_link_104, X_X11_link_0, X_X11_link, true_and, hL.1]
          refine c0 _ _ (c_memberOf hG hC xS hu (by omega) t4 (c_memberAt1 hG hC xS c1 hm1 (brF (by omega) (brF (by omega) ?_))))
          simp (disch := omega) only [mI_c, mR_c, mJ_c, sI_c, sJ_c, sR_c, hL.1, hL.2.1, hL.2.2, hC.1, hC.2.1, hC.2.2.1, nls, lT, lF, tT, tF, eF, pF, zT, e0F, m1F, vT, cI, nI_1, nI_add, pk_mul, true_and, and_true, true_implies, false_implies, not_false_eq_true, not_true_eq_false, bzT1, bzT0, m10, m1z, o0F, forall_eq, implies_true, if_true, if_false, q2, g3]
          exact hQ
        · simp (disch := omega) only [X_X12_link_32, X_X12_link_106, X_X12_link_145, X_X12_link_0, X_X12_link, true_and, hM.1]
          refine d0 _ _ (brF (pI (by omega)) (brF (pI (by omega)) ?_))
          simp (disch := omega) only [mI_m, mR_m, mJ_m, sI_m, sJ_m, hM.1, hM.2, hm.1, hm.2, nls, lT, lF, tT, tF, eF, pF, zT, e0F, m1F, vT, cI, nI_1, nI_add, pk_mul, true_and, and_true, true_implies, false_implies, not_false_eq_true, not_true_eq_false, bzT1, bzT0, m10, m1z, o0F, forall_eq, implies_true, if_true, if_false, c2, hmc, ek]
          exact hQ
    · refine ⟨0, κ', ρ', fun ρ1 Q hQ => ?_, fun κ1 Q hQ => ?_, hR'⟩
      · simp (disch := omega) only [X_X11_link_35, X_X11_link_67, X_X11_link_104, X_X11_link_0, X_X11_link, true_and, hL.1]
        exact c0 _ _ (c_memberOf hG hC xS hu (by omega) t4 (c_memberAt0 hG hC xS (Or.inr ⟨c, c1, rfl, hz⟩) (brF (by omega) (brT rfl ⟨bz0, hQ⟩))))
      · simp (disch := omega) only [X_X12_link_32, X_X12_link_106, X_X12_link_145, X_X12_link_0, X_X12_link, true_and, hM.1]
        refine d0 _ _ (brF (pI (by omega)) ?_)
        rcases hz with hz | ⟨m, m1, m2, rfl⟩
        · exact brT hz ⟨bz0, hQ⟩
        · refine brF (pI m2) ?_
          simp (disch := omega) only [mI_m, mR_m, mJ_m, sI_m, sJ_m, hM.1, hM.2, hm.1, hm.2, lT, lF, tT, tF, eF, pF, zT, m1F, vT, cI, true_and, and_true, true_implies, false_implies, not_false_eq_true, not_true_eq_false, forall_eq, implies_true, c2, hmc]
          exact ⟨bz0, hQ⟩
  · refine ⟨0, κ', ρ', fun ρ1 Q hQ => ?_, fun κ1 Q hQ => ?_, hR'⟩
    · simp (disch := omega) only [X_X11_link_35, X_X11_link_67, X_X11_link_104, X_X11_link_0, X_X11_link, true_and, hL.1]
      exact c0 _ _ (c_memberOf0 (brT (by trivial) ⟨bz0, hQ⟩))
    · simp (disch := omega) only [X_X12_link_32, X_X12_link_106, X_X12_link_145, X_X12_link_0, X_X12_link, true_and, hM.1]
      exact d0 _ _ (brT (by decide) ⟨bz0, hQ⟩)
end CALLS6
