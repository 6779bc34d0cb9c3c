section FLUSH
variable {G : Lay} {nn sc n r0 r1 w : Nat} {mc rt hc K N N1 us : Nat → Nat} {κ κ' κ0 ρ ρ' ρ0 κ1 ρ1 : Mem} {u k f q : Nat}
theorem j_perform (hG : Ly G) (hnn : nn ≤ 512) (hA : RelA nn sc n mc rt hc K N r0 us κ ρ) (hu : u < 4) (ho : mI ρ 1316 u = 1) :
    ∃ out κ' ρ' N' r0', RunC (fun Q σ => X_X10_perform G Q 1269 (533 + 184 * u) σ) κ out κ' ∧ RunM (fun Q σ => X_X12_writeUnit G Q 1282 (nI u) σ) ρ out ρ' ∧ RelA nn sc n mc rt hc K N' r0' us κ' ρ' ∧ (out = 0 → mI ρ' 1316 u = 1 ∧ Eqv qkC κ κ' ∧ Eqv qkM ρ ρ') := by
  obtain ⟨κ0, ρ0, st, rk, l, pc, pm, A0, ho0, hst, hrk, el, oc0, hz, w0, ⟨qc, qm⟩, kc, km⟩ := j_prep hG hnn hA hu ho
  obtain ⟨C, hC0⟩ := A0.2.2.2.2.2.2.2.2.2.2.2.2.2.2
  have h60 := (A0.2.2.2.2.2.2.2.1.op hu ho0).1
  have hsr : SrR rk l := by rw [el]; exact ordN_srt hrk.2
  have hll : l.length ≤ 60 := by rw [el]; exact Nat.le_trans (ordN_len hrk.2) h60
  have hX : Ctx nn sc n mc rt hc K N r0 us κ0 ρ0 u st l C := ⟨A0, hu, ho0, hst, fun k => by rw [el]; exact ordN_mem, hll, oc0, fun k hk hs => hC0.2 u hu ho0 k hk (by rw [hst k hk]; exact hs), fun p => by
    rw [el, ordN_filter hrk.2, ordN_cnt (fun a b ha hb sa sb => hrk.2 a b ha hb (by rw [Bool.and_eq_true] at sa; exact sa.1) (by rw [Bool.and_eq_true] at sb; exact sb.1))]⟩
  have hnd : ∀ i j, i < j → j < l.length → l.getD i 0 ≠ l.getD j 0 := fun i j hij hj e => by
    have := List.pairwise_iff_getElem.mp hsr i j (by omega) hj hij
    rw [List.getD_eq_getElem?_getD, List.getElem?_eq_getElem (show i < l.length by omega), List.getD_eq_getElem?_getD, List.getElem?_eq_getElem hj] at e
    have e : l[i] = l[j] := e
    rw [e] at this
    exact Nat.lt_irrefl _ this
  have hM : Mid n mc rt K C u κ0 ρ0 N r0 κ0 ρ0 := ⟨⟨A0.1.1, A0.1.2.1⟩, Eqv.rf, Eqv.rf, A0.2.2.2.2.2.2.1, A0.2.2.2.2.2.2.2.2.2.2.1, hC0.1⟩
  have xW := A0.2.2.2.2.2.2.2.2.1
  have hl : Log 0 κ0 ρ0 := by
    obtain ⟨a1, a2, a3, a4, a5, a6⟩ := w0
    obtain ⟨b1, b2, b3, b4, b5, w, b6, b7, b8, b9⟩ := xW
    refine ⟨⟨b1.trans a1, b2.trans a2, b3.trans a3, b4.trans a4, b5.trans a5⟩, ⟨a1, a2, a3, a4, a5⟩, ?_, a6, fun i hi => by omega⟩
    rw [b7, ← b8, a6]; rfl
  have hnw : (l.filter (nwB st)).length ≤ 60 := Nat.le_trans (List.length_filter_le _ _) hll
  rcases j_insertAll hG hX hrk el hM hl hz with ⟨κa, ρa, a1, a2, a3⟩ | ⟨κa, ρa, Na, ra, wa, a1, a2, a3, a4, a5, a6, a7⟩
  · obtain ⟨out, κ', ρ', b1, b2, b3, b4⟩ := j_brk hG A0 hu kc km a3
    exact ⟨out, κ', ρ', N, r0, fun ρ1 Q hQ => pc ρ1 Q (a1 ρ1 _ (br0 (b1 ρ1 Q hQ))), fun κ1 Q hQ => pm κ1 Q (a2 κ1 _ (br0 (b2 κ1 Q hQ))), b3, fun h => absurd h b4⟩
  · rcases j_changeAll hG hX hrk el a3 a4 (by omega) a6 a7 with ⟨κb, ρb, c1, c2, c3⟩ | ⟨κb, ρb, wb, c1, c2, c3, c4, c5, c6⟩
    · obtain ⟨out, κ', ρ', b1, b2, b3, b4⟩ := j_brk hG A0 hu kc km c3
      exact ⟨out, κ', ρ', N, r0, fun ρ1 Q hQ => pc ρ1 Q (a1 ρ1 _ (br1 (c1 ρ1 _ (br0 (b1 ρ1 Q hQ))))), fun κ1 Q hQ => pm κ1 Q (a2 κ1 _ (br1 (c2 κ1 _ (br0 (b2 κ1 Q hQ))))), b3, fun h => absurd h b4⟩
    · rcases j_deleteAll hG hnn hX hrk el c3 c4 (by omega) c6 with ⟨κd, ρd, d1, d2, d3⟩ | ⟨κd, ρd, Nd, rd, wd, d1, d2, d3, d4, d5, d6⟩
      · obtain ⟨out, κ', ρ', b1, b2, b3, b4⟩ := j_brk hG A0 hu kc km d3
        exact ⟨out, κ', ρ', N, r0, fun ρ1 Q hQ => pc ρ1 Q (a1 ρ1 _ (br1 (c1 ρ1 _ (br1 (d1 ρ1 _ (br0 (b1 ρ1 Q hQ))))))), fun κ1 Q hQ => pm κ1 Q (a2 κ1 _ (br1 (c2 κ1 _ (br1 (d2 κ1 _ (br0 (b2 κ1 Q hQ))))))), b3, fun h => absurd h b4⟩
      · obtain ⟨κ', ρ', e1, e2, e3, e4, e5, e6⟩ := j_done hG hX hC0 hnd d3 d4 d5 d6
        exact ⟨0, κ', ρ', Nd, rd, fun ρ1 Q hQ => pc ρ1 Q (a1 ρ1 _ (br1 (c1 ρ1 _ (br1 (d1 ρ1 _ (br1 (e1 ρ1 Q hQ))))))), fun κ1 Q hQ => pm κ1 Q (a2 κ1 _ (br1 (c2 κ1 _ (br1 (d2 κ1 _ (br1 (e2 κ1 Q hQ))))))), e3, fun _ => ⟨e4, (qc.tr (d3.2.1.mo fun a k hh => (by unfold qkC at hh; unfold wfC; rintro (h | h | h | ⟨j, h1, h2, h3⟩) <;> omega))).tr e5, (qm.tr (d3.2.2.1.mo fun a k hh => (by unfold qkM at hh; unfold wfM; omega))).tr e6⟩⟩
theorem j_flush (hG : Ly G) (nn : Nat) (κ ρ : Mem) (x : Int32) (hnn : nn ≤ 512) (h : Rel nn κ ρ) : Jt nn (fun Q σ => X_X11_flush G Q 1 x σ) (fun Q σ => X_X12_flush G Q 1282 x σ) κ ρ := by
  have h0 := h
  obtain ⟨sc, n, mc, rt, hc, K, N, r0, us, hA⟩ := h
  have hL := hG.1
  have hM := hG.2.2.2
  obtain ⟨⟨hC, hm, hNu⟩, xT, xF, xS, xN, xK, xR, xU, xW, xD, xY, xZ⟩ := id hA
  rcases unitCase xU x with ⟨u, hu, rfl, ho⟩ | hx
  · obtain ⟨out, κ', ρ', N', r0', a1, a2, a3, -⟩ := j_perform hG hnn hA hu ho
    refine ⟨out, κ', ρ', fun ρ1 Q hQ => ?_, fun κ1 Q hQ => ?_, Rel.up ⟨sc, n, mc, rt, hc, K, N', r0', us, a3⟩⟩
    · simp (disch := omega) only [X_X11_flush_22, X_X11_flush_0, X_X11_flush, true_and, hL.1]
      refine c_openUnit1 hL hC xU hu ho (brF (by omega) ?_)
      simp (disch := omega) only [mI_c, mR_c, mJ_c, sI_c, sJ_c, sR_c, hL.1, hL.2.1, hL.2.2, hC.1, hC.2.1, hC.2.2.1, lT, lF, tT, tF, eF, pF, zT, m1F, vT, cI, true_and, and_true, true_implies, false_implies, not_false_eq_true, not_true_eq_false, forall_eq, implies_true]
      exact a1 ρ1 _ hQ
    · simp (disch := omega) only [X_X12_flush_17, X_X12_flush_0, X_X12_flush, true_and, hM.1]
      exact m_isUnit1 hM hm hu ho (br1 (a2 κ1 _ hQ))
  · refine ⟨-1, κ, ρ, fun ρ1 Q hQ => ?_, fun κ1 Q hQ => ?_, h0.up⟩
    · simp (disch := omega) only [X_X11_flush_22, X_X11_flush_0, X_X11_flush, true_and, hL.1]
      exact c_openUnit0 hL hC xU hx (brT rfl hQ)
    · simp (disch := omega) only [X_X12_flush_17, X_X12_flush_0, X_X12_flush, true_and, hM.1]
      exact m_isUnit0 hM hm hx (br0 hQ)
theorem j_close (hG : Ly G) (nn : Nat) (κ ρ : Mem) (x y : Int32) (hnn : nn ≤ 512) (h : Rel nn κ ρ) : Jt nn (fun Q σ => X_X11_close G Q 1 x y σ) (fun Q σ => X_X12_close G Q 1282 x y σ) κ ρ := by
  have h0 := h
  obtain ⟨sc, n, mc, rt, hc, K, N, r0, us, hA⟩ := h
  have hL := hG.1
  have hM := hG.2.2.2
  obtain ⟨⟨hC, hm, hNu⟩, xT, xF, xS, xN, xK, xR, xU, xW, xD, xY, xZ⟩ := id hA
  rcases unitCase xU x with ⟨u, hu, rfl, ho⟩ | hx
  · have eC : (∀ ρ1 (Q : Int32 → Mem → Prop), ((y < 0 → Q (-1) (mg κ ρ1)) ∧ (¬ y < 0 → ((y ≤ 1 → ((y = 1 → X_X10_perform G (fun w6 s5 => X_X11_close_38 G Q (533 + 184 * u) w6 s5) 1269 (533 + 184 * u) (mg κ ρ1)) ∧ (¬ y = 1 → X_X11_close_38 G Q (533 + 184 * u) 0 (mg κ ρ1)))) ∧ (¬ y ≤ 1 → Q (-1) (mg κ ρ1))))) → X_X11_close G Q 1 (nI u) y (mg κ ρ1)) := fun ρ1 Q hh => by
      simp (disch := omega) only [X_X11_close, X_X11_close_0, X_X11_close_19, true_and, hL.1]
      refine c_openUnit1 hL hC xU hu ho (brF (by omega) ?_)
      simp (disch := omega) only [mI_c, mR_c, mJ_c, sI_c, sJ_c, sR_c, hL.1, hL.2.1, hL.2.2, hC.1, hC.2.1, hC.2.2.1, lT, lF, tT, tF, eF, pF, zT, m1F, vT, cI, true_and, and_true, true_implies, false_implies, not_false_eq_true, not_true_eq_false, forall_eq, implies_true]
      exact hh
    have eM : (∀ κ1 (Q : Int32 → Mem → Prop), ((y < 0 → Q (-1) (mg κ1 ρ)) ∧ (¬ y < 0 → ((y ≤ 1 → ((y = 1 → X_X12_writeUnit G (fun w5 s4 => X_X12_close_33 G Q 1282 (nI u) w5 s4) 1282 (nI u) (mg κ1 ρ)) ∧ (¬ y = 1 → X_X12_close_33 G Q 1282 (nI u) 0 (mg κ1 ρ)))) ∧ (¬ y ≤ 1 → Q (-1) (mg κ1 ρ))))) → X_X12_close G Q 1282 (nI u) y (mg κ1 ρ)) := fun κ1 Q hh => by
      simp (disch := omega) only [X_X12_close, X_X12_close_0, X_X12_close_17, true_and, hM.1]
      exact m_isUnit1 hM hm hu ho (br1 hh)
    have shut : ∀ κa ρa N' r0', RelA nn sc n mc rt hc K N' r0' us κa ρa → (∀ ρ1 (Q : Int32 → Mem → Prop), Q 0 (mg (sI κa (533 + 184 * u) 4 0) ρ1) → X_X11_close_38 G Q (533 + 184 * u) 0 (mg κa ρ1)) ∧ (∀ κ1 (Q : Int32 → Mem → Prop), Q 0 (mg κ1 (sI ρa 1316 u 0)) → X_X12_close_33 G Q 1282 (nI u) 0 (mg κ1 ρa)) := fun κa ρa N' r0' hAa => by
      have hma := hAa.1.2.1
      refine ⟨fun ρ1 Q hQ => ?_, fun κ1 Q hQ => ?_⟩
      · simp (disch := omega) only [X_X11_close_38, X_X11_close_50, hL.2.1, sI_c, lT, lF, tT, tF, eF, pF, zT, m1F, vT, cI, true_and, and_true, true_implies, false_implies, not_false_eq_true, not_true_eq_false, forall_eq, implies_true, bzT0]
        exact hQ
      · simp (disch := omega) only [X_X12_close_17, X_X12_close_45, X_X12_close_33, X_X12_close_0, X_X12_close, mI_m, mR_m, sI_m, hM.1, hM.2, hma.1, hma.2, lT, lF, tT, tF, eF, pF, zT, m1F, vT, cI, true_and, and_true, true_implies, false_implies, not_false_eq_true, not_true_eq_false, forall_eq, implies_true, narb0]
        exact hQ
    have keep : ∀ (out : Int32), out ≠ 0 → (∀ (σ : Mem) (Q : Int32 → Mem → Prop), Q out σ → X_X11_close_38 G Q (533 + 184 * u) out σ) ∧ (∀ (σ : Mem) (Q : Int32 → Mem → Prop), Q out σ → X_X12_close_33 G Q 1282 (nI u) out σ) := fun out hne => ⟨fun σ Q hQ => brF hne hQ, fun σ Q hQ => by
      simp (disch := omega) only [X_X12_close_17, X_X12_close_45, X_X12_close_33, X_X12_close_0, X_X12_close]
      exact brF hne hQ⟩
    by_cases y0 : y < 0
    · exact ⟨-1, κ, ρ, fun ρ1 Q hQ => eC ρ1 Q (brT y0 hQ), fun κ1 Q hQ => eM κ1 Q (brT y0 hQ), h0.up⟩
    · by_cases y1 : y ≤ 1
      · by_cases y2 : y = 1
        · obtain ⟨out, κ', ρ', N', r0', a1, a2, a3, -⟩ := j_perform hG hnn hA hu ho
          by_cases hz : out = 0
          · subst hz
            obtain ⟨s1, s2⟩ := shut κ' ρ' N' r0' a3
            exact ⟨0, _, _, fun ρ1 Q hQ => eC ρ1 Q (brF y0 (brT y1 (brT y2 (a1 ρ1 _ (s1 ρ1 Q hQ))))), fun κ1 Q hQ => eM κ1 Q (brF y0 (brT y1 (brT y2 (a2 κ1 _ (s2 κ1 Q hQ))))), Rel.up ⟨sc, n, mc, rt, hc, K, N', r0', us, a3.shut hu⟩⟩
          · obtain ⟨s1, s2⟩ := keep out hz
            exact ⟨out, κ', ρ', fun ρ1 Q hQ => eC ρ1 Q (brF y0 (brT y1 (brT y2 (a1 ρ1 _ (s1 _ Q hQ))))), fun κ1 Q hQ => eM κ1 Q (brF y0 (brT y1 (brT y2 (a2 κ1 _ (s2 _ Q hQ))))), Rel.up ⟨sc, n, mc, rt, hc, K, N', r0', us, a3⟩⟩
        · obtain ⟨s1, s2⟩ := shut κ ρ N r0 hA
          exact ⟨0, _, _, fun ρ1 Q hQ => eC ρ1 Q (brF y0 (brT y1 (brF y2 (s1 ρ1 Q hQ)))), fun κ1 Q hQ => eM κ1 Q (brF y0 (brT y1 (brF y2 (s2 κ1 Q hQ)))), Rel.up ⟨sc, n, mc, rt, hc, K, N, r0, us, hA.shut hu⟩⟩
      · exact ⟨-1, κ, ρ, fun ρ1 Q hQ => eC ρ1 Q (brF y0 (brF y1 hQ)), fun κ1 Q hQ => eM κ1 Q (brF y0 (brF y1 hQ)), h0.up⟩
  · refine ⟨-1, κ, ρ, fun ρ1 Q hQ => ?_, fun κ1 Q hQ => ?_, h0.up⟩
    · simp (disch := omega) only [X_X11_close, X_X11_close_0, X_X11_close_19, true_and, hL.1]
      exact c_openUnit0 hL hC xU hx (brT rfl hQ)
    · simp (disch := omega) only [X_X12_close, X_X12_close_0, X_X12_close_17, true_and, hM.1]
      exact m_isUnit0 hM hm hx (br0 hQ)
end FLUSH
