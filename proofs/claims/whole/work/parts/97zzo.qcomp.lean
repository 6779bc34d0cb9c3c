section QCO
variable {G : Lay} {κ0 ρ0 κ κ' ρ ρ' ρ2 κ1 ρ1 κ2 : Mem} {sc n z T i io c0 A S c m nn s k w b q : Nat} {st : List Nat} {B : Nat → Nat} {mc rt hc P D : Nat → Nat}
theorem m_nameLoop1 (hM : LyM G) (hm : StM ρ) (hk : k < 208) (e93 : mI ρ 1293 k = nI w) (e92 : mI ρ 1292 k = nI b) (hb : b + w ≤ 1600) {y : Int64} (e52 : mJ ρ 1282 52 = y) (hq : q < w) (eq1 : mJ ρ 1304 (b + q) = y) (eq2 : ∀ j, j < w → j ≠ q → mJ ρ 1304 (b + j) ≠ y) {Q : Int32 → Mem → Prop} {l3 l6 : Int32} (h : X_X12_readPath_387 G Q 1282 l3 l6 (nI q) (mg κ1 ρ)) : Lw (X_X12_readPath_322_s G Q 1282 l3 (nI k) l6) (-1, 0, mg κ1 ρ) := by
  have st : ∀ j, (if q < j then nI q else (-1 : Int32)) = if q < j then nI q else -1 := fun j => rfl
  refine Lw.seq (F := X_X12_readPath_322_s G Q 1282 l3 (nI k) l6) (fun j => ((if q < j then nI q else -1 : Int32), nI j, mg κ1 ρ)) w (fun K j hj hK => ?_) (fun K => ?_)
  · have hK : K ((if q < j + 1 then nI q else -1 : Int32), nI (j + 1), mg κ1 ρ) := hK
    show X_X12_readPath_322_s G Q 1282 l3 (nI k) l6 K ((if q < j then nI q else -1 : Int32), nI j, mg κ1 ρ)
    by_cases e : j = q
    · subst e
      rw [if_pos (by omega)] at hK
      simp (disch := omega) only [X_X12_readPath_322_s, X_X12_readPath_364, mI_m, mR_m, mJ_m, sI_m, sJ_m, hM.1, hM.2, hm.1, hm.2, e93, e92, e52, eq1, nI_add, nI_1, lg_cmp_eq, lT, lF, tT, tF, eF, pF, zT, m1F, vT, cI, true_and, and_true, true_implies, false_implies, not_false_eq_true, not_true_eq_false, forall_eq, implies_true]
      exact hK
    · have ne := eq2 j hj e
      have e1 : (if q < j + 1 then nI q else (-1 : Int32)) = if q < j then nI q else -1 := by
        by_cases h : q < j
        · rw [if_pos h, if_pos (by omega)]
        · rw [if_neg h, if_neg (by omega)]
      rw [e1] at hK
      simp (disch := omega) only [X_X12_readPath_322_s, X_X12_readPath_364, mI_m, mR_m, mJ_m, sI_m, sJ_m, hM.1, hM.2, hm.1, hm.2, e93, e92, e52, ne, nI_add, nI_1, lg_cmp_eq, lT, lF, tT, tF, eF, pF, zT, m1F, vT, cI, true_and, and_true, true_implies, false_implies, not_false_eq_true, not_true_eq_false, forall_eq, implies_true]
      exact hK
  · show X_X12_readPath_322_s G Q 1282 l3 (nI k) l6 K ((if q < w then nI q else -1 : Int32), nI w, mg κ1 ρ)
    rw [if_pos hq]
    simp (disch := omega) only [X_X12_readPath_322_s, mI_m, mR_m, mJ_m, sI_m, sJ_m, hM.1, hM.2, hm.1, hm.2, e93, lT, lF, tT, tF, eF, pF, zT, m1F, vT, cI, true_and, and_true, true_implies, false_implies, not_false_eq_true, not_true_eq_false, forall_eq, implies_true]
    exact h
theorem m_nameLoop0 (hM : LyM G) (hm : StM ρ) (hk : k < 208) (e93 : mI ρ 1293 k = nI w) (e92 : w = 0 ∨ mI ρ 1292 k = nI b) (hb : b + w ≤ 1600) {y : Int64} (e52 : mJ ρ 1282 52 = y) (eq2 : ∀ j, j < w → mJ ρ 1304 (b + j) ≠ y) {Q : Int32 → Mem → Prop} {l3 l6 : Int32} (h : X_X12_fails G (fun w5 s4 => (bz w5 ∧ Q w5 s4)) 1282 3 (mg κ1 ρ)) : Lw (X_X12_readPath_322_s G Q 1282 l3 (nI k) l6) (-1, 0, mg κ1 ρ) := by
  refine Lw.seq (F := X_X12_readPath_322_s G Q 1282 l3 (nI k) l6) (fun j => ((-1 : Int32), nI j, mg κ1 ρ)) w (fun K j hj hK => ?_) (fun K => ?_)
  · have hK : K ((-1 : Int32), nI (j + 1), mg κ1 ρ) := hK
    show X_X12_readPath_322_s G Q 1282 l3 (nI k) l6 K ((-1 : Int32), nI j, mg κ1 ρ)
    have ne := eq2 j hj
    have e92 : mI ρ 1292 k = nI b := by rcases e92 with e | e; omega; exact e
    simp (disch := omega) only [X_X12_readPath_322_s, X_X12_readPath_364, mI_m, mR_m, mJ_m, sI_m, sJ_m, hM.1, hM.2, hm.1, hm.2, e93, e92, e52, ne, nI_add, nI_1, lg_cmp_eq, lT, lF, tT, tF, eF, pF, zT, m1F, vT, cI, true_and, and_true, true_implies, false_implies, not_false_eq_true, not_true_eq_false, forall_eq, implies_true]
    exact hK
  · show X_X12_readPath_322_s G Q 1282 l3 (nI k) l6 K ((-1 : Int32), nI w, mg κ1 ρ)
    have m1z : ((0 : Int32) ≤ -1) = False := eq_false (by decide)
    simp (disch := omega) only [X_X12_readPath_322_s, mI_m, mR_m, mJ_m, sI_m, sJ_m, hM.1, hM.2, hm.1, hm.2, e93, m1z, lT, lF, tT, tF, eF, pF, zT, m1F, vT, cI, true_and, and_true, true_implies, false_implies, not_false_eq_true, not_true_eq_false, forall_eq, implies_true]
    exact h
/-- the operand -/
theorem j_operand (hG : Ly G) (hS : RelS sc n mc rt hc κ0 ρ0) (hN : RelN sc n mc κ0 ρ0) (h0 : QT κ0 ρ0 sc n mc B z T c0 0 κ ρ i st 0 A S P D) (h : OpI κ0 ρ0 sc n mc B z T c0 κ ρ i st.length A S (P A) c m nn s κ' ρ' io) : Jq κ0 ρ0 (fun Q σ => X_X4_readOperand G Q 11 (mR κ0 (sc + 5 + 5 * c) m) σ) (fun Q σ => X_X12_is G (fun w4 s3 => ((w4 = 0 → (((mI s3 1282 51) = (3 : Int32) → X_X12_readPath_387 G Q 1282 (nI S) (nI s) (mI s3 1282 53) s3) ∧ (¬ (mI s3 1282 51) = (3 : Int32) → X_X12_isName G (fun w6 s5 => ((w6 = 0 → X_X12_wrong G (fun w8 s7 => (bz w8 ∧ Q w8 s7)) 1282 s5) ∧ (¬ w6 = 0 → X_X12_readPath_322 G Q 1282 (nI S) (nI (16 * c + m)) (nI s) (-1 : Int32) (0 : Int32) s5))) 1282 s3))) ∧ (¬ w4 = 0 → X_X12_advance G (fun s9 => (((mI s9 1282 51) = (3 : Int32) → X_X12_readPath_387 G Q 1282 (nI S) (nI s) (-(mI s9 1282 53)) s9) ∧ (¬ (mI s9 1282 51) = (3 : Int32) → X_X12_wrong G (fun w11 s10 => (bz w11 ∧ Q w11 s10)) 1282 s9))) 1282 s3))) 1282 (45 : Int32) σ) (fun κe ρe => ∃ i' S' P' D', i < i' ∧ QT κ0 ρ0 sc n mc B z T c0 1 κe ρe i' st 0 (A + 1) S' P' D') κ' ρ' := by
  have hL := hG.1
  have hM := hG.2.2.2
  have hs := hS.1
  have hT := hG.s hs
  obtain ⟨hP, -, -, -, -, ⟨y1, y2, -⟩, -, -, b3⟩ := id h
  obtain ⟨⟨hC, hm⟩, ⟨hTC, hTM⟩, -, h112⟩ := id hP
  have hz := hTC.zz
  have xS := hP.S hS
  have xN := hP.N hS hN
  have mc16 := xS.m16 y1
  have h12 := xS.le
  have i110 : ∀ {κ ρ1 : Mem}, StC κ → mR (mg κ ρ1) 11 0 = 3 := fun {κ ρ1} hC => (mR_c (by decide) _).trans hC.1.2.2.2.2.2.2.2.2.2.2.2.2.2.2.2.2.1
  have i111 : ∀ {κ ρ1 : Mem}, StC κ → mR (mg κ ρ1) 11 1 = 8 := fun {κ ρ1} hC => (mR_c (by decide) _).trans hC.1.2.2.2.2.2.2.2.2.2.2.2.2.2.2.2.2.2.1
  have i112 : ∀ ρ1, mR (mg κ' ρ1) 11 2 = sc := fun ρ1 => (mR_c (by decide) _).trans h112
  have g9 : gT G 3 = 9 := hL.1.2.2.2.1
  have g4 : gT G 8 = 4 := hL.1.2.2.2.2.2.2.2.2.2.2.2.1
  have g5 : gT G 11 = 5 := hL.1.2.2.2.2.2.2.2.2.2.2.2.2.2.2.2.2.1
  have qx : mR κ0 (sc + 5 + 5 * c) m = mR κ' (sc + 5 + 5 * c) m := (hP.2.2.1.1.R (by unfold qpC; omega)).symm
  have hx := (xS.mem y1 y2).1
  have t51 : ∀ {ρ : Mem} {p : Nat}, TM ρ B z p → ∀ κ1, (mI (mg κ1 ρ) 1282 51 = (3 : Int32) ↔ tkd B z p = 3) := fun {ρ p} hT κ1 => by
    rw [mI_m (by decide), hT.2.2.2.1]
    exact eI (b := 3) (by rcases tk_any (B := B) (z := z) (p := p) with e | e | e | e | e <;> omega) (by decide)
  by_cases hn : nmT B z (pos B z io)
  · have hi : io < T := hTC.lt (by rw [hn.1]; decide)
    have hw := wd_rel hTM.lo hn.1
    have e52 : mJ ρ' 1282 52 = wdy B z (pos B z io) := hTM.2.2.2.2.1 hn.1
    have a45 : ¬ sgA B z (pos B z io) 45 := fun a => by have := a.1; rw [hn.1] at this; omega
    have n3 : ∀ κ1, ¬ mI (mg κ1 ρ') 1282 51 = (3 : Int32) := fun κ1 e => by have := (t51 hTM κ1).mp e; rw [hn.1] at this; omega
    have goC : ∀ ρ1 (Q : Int32 → Mem → Prop), X_X6_nameNumber G (fun w25 s24 => ((w25 = (-1 : Int32) → gT G (mR s24 11 0) = 9 ∧ X_X8_refuse G (fun w32 s31 => (bz w32 ∧ Q w32 s31)) (mR s24 11 0) (3 : Int32) s24) ∧ (¬ w25 = (-1 : Int32) → gT G (mR s24 11 1) = 4 ∧ X_X3_add G (fun s27 => gT G (mR s27 11 0) = 9 ∧ X_X8_pass G (fun s29 => (bz (1 : Int32) ∧ Q (1 : Int32) s29)) (mR s27 11 0) s27) (mR s24 11 1) w25 s24))) sc (mR κ' (sc + 5 + 5 * c) m) (wdx B z (pos B z io)) (mg κ' ρ1) → X_X4_readOperand G Q 11 (mR κ0 (sc + 5 + 5 * c) m) (mg κ' ρ1) := fun ρ1 Q hh => by
      unfold X_X4_readOperand X_X4_readOperand_0
      rw [i110 hC, qx]
      refine ⟨g5, g9, c_isName1 hL hC hTC hn (br1 ?_)⟩
      rw [i110 hC]
      refine ⟨g9, c_word hL hC hTC hn.1 ?_⟩
      rw [i112]
      exact ⟨hT.1.1, hh⟩
    have badC : ∀ ρ1 (Q : Int32 → Mem → Prop), Q 0 (mg (flC κ' 3 (pos B z io)) ρ1) → ((-1 : Int32) = -1 → gT G (mR (mg κ' ρ1) 11 0) = 9 ∧ X_X8_refuse G (fun w32 s31 => (bz w32 ∧ Q w32 s31)) (mR (mg κ' ρ1) 11 0) (3 : Int32) (mg κ' ρ1)) := fun ρ1 Q hQ _ => by
      rw [i110 hC]
      exact ⟨g9, c_refuse hL hC hTC ⟨bz0, hQ⟩⟩
    obtain ⟨⟨kd, kd1, kd2, kd3, -⟩, -⟩ := xS.2.2.2.2.2.2.2.2.2.1 c y1 m y2
    have e5 := (xS.mem y1 y2).2.2.2.2.1
    -- no name: a fault on both sides
    have bad : ∀ w a b, mI ρ' 1293 (16 * c + m) = nI w → (w = 0 ∨ mI κ' (mR κ' (sc + 5 + 5 * c) m) 4 = nI a ∧ mI ρ' 1292 (16 * c + m) = nI b) → a + w ≤ 1500 → b + w ≤ 1600 → (∀ q, q < w → mJ κ' (sc + 3) (a + q) ≠ wdx B z (pos B z io)) → (∀ q, q < w → mJ ρ' 1304 (b + q) ≠ wdy B z (pos B z io)) → Jq κ0 ρ0 (fun Q σ => X_X4_readOperand G Q 11 (mR κ0 (sc + 5 + 5 * c) m) σ) (fun Q σ => X_X12_is G (fun w4 s3 => ((w4 = 0 → (((mI s3 1282 51) = (3 : Int32) → X_X12_readPath_387 G Q 1282 (nI S) (nI s) (mI s3 1282 53) s3) ∧ (¬ (mI s3 1282 51) = (3 : Int32) → X_X12_isName G (fun w6 s5 => ((w6 = 0 → X_X12_wrong G (fun w8 s7 => (bz w8 ∧ Q w8 s7)) 1282 s5) ∧ (¬ w6 = 0 → X_X12_readPath_322 G Q 1282 (nI S) (nI (16 * c + m)) (nI s) (-1 : Int32) (0 : Int32) s5))) 1282 s3))) ∧ (¬ w4 = 0 → X_X12_advance G (fun s9 => (((mI s9 1282 51) = (3 : Int32) → X_X12_readPath_387 G Q 1282 (nI S) (nI s) (-(mI s9 1282 53)) s9) ∧ (¬ (mI s9 1282 51) = (3 : Int32) → X_X12_wrong G (fun w11 s10 => (bz w11 ∧ Q w11 s10)) 1282 s9))) 1282 s3))) 1282 (45 : Int32) σ) (fun κe ρe => ∃ i' S' P' D', i < i' ∧ QT κ0 ρ0 sc n mc B z T c0 1 κe ρe i' st 0 (A + 1) S' P' D') κ' ρ' := fun w a b w1 w2 w3 w4 w5 w6 => by
      refine Jq.fail (fun ρ1 Q hQ => goC ρ1 Q (c_nameNumber0 hG hC hs hx (e5.trans w1) (by rcases w2 with w2 | w2; exact Or.inl w2; exact Or.inr w2.1) w3 w5 ⟨badC ρ1 Q hQ, fun e => absurd rfl e⟩)) (fun κ1 Q hQ => m_is0 (s := 45) hM hTM (by decide) a45 (br0 (brF (n3 κ1) (m_isName1 hM hTM hn (br1 ?_))))) (hP.fail 3 (p := pos B z io))
      exact m_nameLoop0 hM hm (by omega) w1 (by rcases w2 with w2 | w2; exact Or.inl w2; exact Or.inr w2.2) w4 e52 w6 (m_fails hM hTM ⟨bz0, hQ⟩)
    by_cases k3 : kd = 3
    · subst k3
      obtain ⟨w, a, b, w1, w2, w3, w4, w5, w6, w7⟩ := (xN.2 c y1 m y2).2 kd2
      by_cases hq : ∃ q, q < w ∧ mJ κ' (sc + 3) (a + q) = wdx B z (pos B z io)
      · obtain ⟨q, q1, q2, q3⟩ := fst_lt hq
        have qm : mJ ρ' 1304 (b + q) = wdy B z (pos B z io) := ((w6 q q1).iff hw).mp q2
        obtain ⟨κw, κe, ρe, P', D', ⟨hCw, fa, fp⟩, f2, f3⟩ := OpI.fin hG h0 h hi (nI q)
        refine Jq.good (κ' := κe) (ρ' := ρe) (fun ρ1 Q hQ => goC ρ1 Q (c_nameNumber1 hG hC hs hx (e5.trans w1) w2 w4 q1 q2 q3 (brF (mI1 (by omega)) ?_))) (fun κ1 Q hQ => m_is0 (s := 45) hM hTM (by decide) a45 (br0 (brF (n3 κ1) (m_isName1 hM hTM hn (br1 ?_))))) ⟨io + 1, _, P', D', by omega, f3⟩
        · rw [i111 hC]
          refine ⟨g4, fa ρ1 _ ?_⟩
          rw [i110 hCw]
          exact ⟨g9, fp ρ1 _ ⟨bz1, hQ⟩⟩
        · exact m_nameLoop1 hM hm (by omega) w1 w3 w5 e52 q1 qm (fun j hj hne e => hne (w7 j q hj q1 (e.trans qm.symm))) (f2 κ1 Q hQ)
      · have hq : ∀ q, q < w → mJ κ' (sc + 3) (a + q) ≠ wdx B z (pos B z io) := fun q h1 h2 => hq ⟨q, h1, h2⟩
        exact bad w a b w1 (Or.inr ⟨w2, w3⟩) w4 w5 hq (fun q h1 h2 => hq q h1 (((w6 q h1).iff hw).mpr h2))
    · exact bad 0 0 0 (kd3 (fun e => k3 e.symm)) (Or.inl rfl) (by decide) (by decide) (fun q h => by omega) (fun q h => by omega)
  · have nC : ∀ ρ1 (Q : Int32 → Mem → Prop), X_X8_takes G (fun w7 s6 => gT G (mR s6 11 0) = 9 ∧ X_X8_isNumber G (fun w10 s9 => ((w10 = 0 → gT G (mR s9 11 0) = 9 ∧ X_X8_misplaced G (fun w19 s18 => (bz w19 ∧ Q w19 s18)) (mR s9 11 0) s9) ∧ (¬ w10 = 0 → ((w7 = 0 → gT G (mR s9 11 0) = 9 ∧ X_X8_number G (fun w13 s12 => X_X4_readOperand_112 G Q 11 (mR s9 11 1) w13 s12) (mR s9 11 0) s9) ∧ (¬ w7 = 0 → gT G (mR s9 11 0) = 9 ∧ X_X8_number G (fun w16 s15 => X_X4_readOperand_112 G Q 11 (mR s9 11 1) (-w16) s15) (mR s9 11 0) s9))))) (mR s6 11 0) s6) 3 (45 : Int64) (mg κ' ρ1) → X_X4_readOperand G Q 11 (mR κ0 (sc + 5 + 5 * c) m) (mg κ' ρ1) := fun ρ1 Q hh => by
      unfold X_X4_readOperand X_X4_readOperand_0
      rw [i110 hC]
      refine ⟨g5, g9, c_isName0 hL hC hTC hn (br0 ?_)⟩
      rw [i110 hC]
      exact ⟨g9, hh⟩
    by_cases a45 : sgA B z (pos B z io) 45
    · have hi : io < T := hTC.lt (by rw [a45.1]; decide)
      obtain ⟨ρ2, r2, s2, e2, t2⟩ := m_adv hM hm hTC hTM hi
      have h2 := h.ps hi s2 e2 t2
      obtain ⟨hP2, -⟩ := id h2
      obtain ⟨⟨hC2, -⟩, ⟨hTC2, hTM2⟩, -⟩ := id hP2
      by_cases k3 : tkd B z (pos B z (io + 1)) = 3
      · have hi2 : io + 1 < T := hTC2.lt (by rw [k3]; decide)
        have e53 : mI ρ2 1282 53 = nI (cd B (pos B z (io + 1)) (eTk B z (pos B z (io + 1)) - pos B z (io + 1))) := hTM2.2.2.2.2.2.1 k3
        obtain ⟨κw, κe, ρe, P', D', ⟨hCw, fa, fp⟩, f2, f3⟩ := OpI.fin hG h0 h2 hi2 (-nI (cd B (pos B z (io + 1)) (eTk B z (pos B z (io + 1)) - pos B z (io + 1))))
        refine Jq.good (κ' := κe) (ρ' := ρe) (fun ρ1 Q hQ => nC ρ1 Q (c_takes1 hL hC hTC (aS a45 (by decide) rfl) ?_)) (fun κ1 Q hQ => m_is1 (s := 45) hM hTM a45 (br1 (r2 κ1 _ (brT ((t51 hTM2 κ1).mpr k3) ?_)))) ⟨io + 1 + 1, _, P', D', by omega, f3⟩
        · rw [i110 hC2]
          refine ⟨g9, c_isNumber1 hL hC2 hTC2 k3 (br1 (br1 ?_))⟩
          rw [i110 hC2, i111 hC2]
          refine ⟨g9, c_number hL hC2 hTC2 k3 ?_⟩
          refine ⟨g4, fa ρ1 _ ⟨g5, ?_⟩⟩
          rw [i110 hCw]
          exact ⟨g9, fp ρ1 _ ⟨bz1, hQ⟩⟩
        · rw [mI_m (by decide), e53]
          exact f2 κ1 Q hQ
      · refine Jq.fail (fun ρ1 Q hQ => nC ρ1 Q (c_takes1 hL hC hTC (aS a45 (by decide) rfl) ?_)) (fun κ1 Q hQ => m_is1 (s := 45) hM hTM a45 (br1 (r2 κ1 _ (brF (fun e => k3 ((t51 hTM2 κ1).mp e)) (m_wrong hM hTM2 ⟨bz0, hQ⟩))))) (hP2.fail (flt B z (pos B z (io + 1))) (p := pos B z (io + 1)))
        rw [i110 hC2]
        refine ⟨g9, c_isNumber0 hL hC2 hTC2 k3 (br0 ?_)⟩
        rw [i110 hC2]
        exact ⟨g9, c_misplaced hL hC2 hTC2 ⟨bz0, hQ⟩⟩
    · by_cases k3 : tkd B z (pos B z io) = 3
      · have hi : io < T := hTC.lt (by rw [k3]; decide)
        have e53 : mI ρ' 1282 53 = nI (cd B (pos B z io) (eTk B z (pos B z io) - pos B z io)) := hTM.2.2.2.2.2.1 k3
        obtain ⟨κw, κe, ρe, P', D', ⟨hCw, fa, fp⟩, f2, f3⟩ := OpI.fin hG h0 h hi (nI (cd B (pos B z io) (eTk B z (pos B z io) - pos B z io)))
        refine Jq.good (κ' := κe) (ρ' := ρe) (fun ρ1 Q hQ => nC ρ1 Q (c_takes0 hL hC hTC (nS a45 (by decide) rfl) ?_)) (fun κ1 Q hQ => m_is0 (s := 45) hM hTM (by decide) a45 (br0 (brT ((t51 hTM κ1).mpr k3) ?_))) ⟨io + 1, _, P', D', by omega, f3⟩
        · rw [i110 hC]
          refine ⟨g9, c_isNumber1 hL hC hTC k3 (br1 (br0 ?_))⟩
          rw [i110 hC, i111 hC]
          refine ⟨g9, c_number hL hC hTC k3 ?_⟩
          refine ⟨g4, fa ρ1 _ ⟨g5, ?_⟩⟩
          rw [i110 hCw]
          exact ⟨g9, fp ρ1 _ ⟨bz1, hQ⟩⟩
        · rw [mI_m (by decide), e53]
          exact f2 κ1 Q hQ
      · refine Jq.fail (fun ρ1 Q hQ => nC ρ1 Q (c_takes0 hL hC hTC (nS a45 (by decide) rfl) ?_)) (fun κ1 Q hQ => m_is0 (s := 45) hM hTM (by decide) a45 (br0 (brF (fun e => k3 ((t51 hTM κ1).mp e)) (m_isName0 hM hTM hn (br0 (m_wrong hM hTM ⟨bz0, hQ⟩)))))) (hP.fail (flt B z (pos B z io)) (p := pos B z io))
        rw [i110 hC]
        refine ⟨g9, c_isNumber0 hL hC hTC k3 (br0 ?_)⟩
        rw [i110 hC]
        exact ⟨g9, c_misplaced hL hC hTC ⟨bz0, hQ⟩⟩
end QCO
