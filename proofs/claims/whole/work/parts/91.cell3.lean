def ansV (ρ : Mem) (r : Nat) : Nat ⊕ Nat → Int64
  | .inl m => (mI ρ 1309 (16 * r + m)).toInt64
  | .inr _ => -9223372036854775808
section CELL3
variable {G : Lay} {nn nn' sc n r0 : Nat} {mc rt hc K K' N us : Nat → Nat} {κ κ' ρ ρ' κ1 ρ1 : Mem} {u k : Nat}
theorem cva_one {q : Nat → Nat → Nat ⊕ Nat} {way : Int32} {d r c f w : Nat} (hc1 : c < n) (hw : way ≠ 0) (hi : isa (par ρ) d c = true) : cva ρ d r (outr (selW way rt f c) q n 0 w) = ansV ρ r (q c w) := by
  rw [outr_one hc1 (fun k => by unfold selW; rw [if_neg hw])]
  cases q c w with
  | inl m => show (if isa (par ρ) d c = true then _ else _) = _; rw [if_pos hi]; rfl
  | inr l => rfl
theorem c_ansget (hL : LyC G) (hC : StC κ) {X : Nat ⊕ Nat} {i r : Nat} (hi : i < 720) (hX : ∀ m, X = .inl m → m < 16) (w5 : ∀ m, m < 16 → mI κ 274 (16 * i + m) = mI ρ 1309 (16 * r + m)) {Q : Int64 → Mem → Prop} (q : Q (ansV ρ r X) (mg κ ρ1)) : (ansN X = -1 → Q (-9223372036854775808) (mg κ ρ1)) ∧ (¬ ansN X = -1 → X_X5_get G (fun w s => Q w.toInt64 s) 13 (nI i) (ansN X) (mg κ ρ1)) := by
  cases X with
  | inl m =>
    have h := hX m rfl
    refine brF (mI1 (by omega)) (c_get hL hC hi h ?_)
    rw [w5 m h]; exact q
  | inr l => exact brT rfl q
theorem j_cell (hG : Ly G) (h : Rel nn κ ρ) (x y z : Int32) : Jt nn (fun Q σ => X_X11_cell G Q 1 x y z σ) (fun Q σ => X_X12_cell G Q 1282 x y z σ) κ ρ := by
  have h0 := h
  obtain ⟨sc, n, mc, rt, hc, K, N, r0, us, hA⟩ := h
  have hL := hG.1
  have hM := hG.2.2.2
  obtain ⟨⟨hC, hm, hNu⟩, xT, xF, xS, xN, xK, xR, xU, xW, xD, xY, xZ⟩ := id hA
  have hT2 := hG.s xS.s2
  have hs2 := xS.s2
  have hK2 := hC.ss hs2
  have h12 := xS.le
  have h720 := xR.le
  rcases clsCase n x with ⟨c, hc1, rfl⟩ | hx
  · have hrc := xS.rt12 hc1
    have h16 := xS.m16 hc1
    have cH0 : ∀ (ρ1 : Mem) (Q : Int64 → Mem → Prop), X_X5_rowOf G (fun w11 s10 => ((w11 = (-1 : Int32) → Q (-9223372036854775808) s10) ∧ (¬ w11 = (-1 : Int32) → ((0 ≤ z → gT G (sc + 4 + 5 * c) = 2 ∧ (((mI s10 (sc + 4 + 5 * c) 3) = 1 → gT G (mR s10 1 6) = 6 ∧ X_X5_joinedCell G Q (mR s10 1 6) (nI c) w11 z s10) ∧ ((mI s10 (sc + 4 + 5 * c) 3) = 2 → gT G (mR s10 1 6) = 6 ∧ X_X5_ownCell G Q (mR s10 1 6) (nI c) w11 z s10) ∧ (¬ (mI s10 (sc + 4 + 5 * c) 3) = 1 ∧ ¬ (mI s10 (sc + 4 + 5 * c) 3) = 2 → gT G (mR s10 1 6) = 6 ∧ X_X5_oneCell G Q (mR s10 1 6) (mI s10 (sc + 4 + 5 * c) 2) w11 z s10))) ∧ (¬ 0 ≤ z → Q (-9223372036854775808) s10))))) 13 (nI (rt c)) y (mg κ ρ1) → X_X11_cell G Q 1 (nI c) y z (mg κ ρ1) := by
      intro ρ1 Q hh
      simp (disch := omega) only [X_X11_cell, X_X11_cell_0, X_X11_cell_49, mR_c, hL.1, hC.1, xS.r13, hT2.1, true_and]
      refine c_kindAt1 hG hC xS hc1 ?_
      simp (disch := omega) only [mR_c, hL.1, hC.1, xS.r13, hT2.1, true_and]
      refine c_rootOf1 hG hC xS hc1 ?_
      have e0 : ¬ sc + 4 + 5 * c = 0 := by omega
      simp only [e0, false_implies, not_false_eq_true, true_implies, true_and]
      exact hh
    rcases rowCase xR (show rt c < 12 by omega) y with ⟨i, r, i1, hr1, hrow, ez⟩ | ⟨q1, q2⟩
    · obtain ⟨w1, w2, w3, w4, w5⟩ := id hrow
      obtain ⟨f', d, x', y1, y2, y3, y4, y5, y6, y7, y8, y9, y10⟩ := xY r hr1
      have ef : f' = rt c := (eI (by omega) (by omega)).mp (y2.symm.trans w1)
      subst ef
      have i60 := (xR.1 (rt c) (by omega)).2
      have w3' := w3.trans y4
      have hi7 : 60 * rt c + i < 720 := by omega
      obtain ⟨wy1, wy2⟩ := (xS.cls hc1).2.2.1
      have wyr := way_rt xS c hc1
      have cH : ∀ (ρ1 : Mem) (Q : Int64 → Mem → Prop), 0 ≤ z → (mI ρ 1286 c = 1 → X_X5_joinedCell G Q 13 (nI c) (nI (60 * rt c + i)) z (mg κ ρ1)) → (mI ρ 1286 c = 2 → X_X5_ownCell G Q 13 (nI c) (nI (60 * rt c + i)) z (mg κ ρ1)) → (mI ρ 1286 c = 0 → X_X5_oneCell G Q 13 (nI (rt c)) (nI (60 * rt c + i)) z (mg κ ρ1)) → X_X11_cell G Q 1 (nI c) y z (mg κ ρ1) := by
        intro ρ1 Q hz a1 a2 a0
        refine cH0 ρ1 Q (c_rowOf1 hL hC xR (by omega) i1 (w2.trans ez) (brF (mI1 (by omega)) (brT hz ?_)))
        simp (disch := omega) only [mI_c, mR_c, hL.1, hC.1, hT2.2.1, true_and, wy1, (xS.cls hc1).2.1]
        refine ⟨a1, a2, fun h => a0 ?_⟩
        rcases wy2 with e | e | e
        · exact e
        · exact absurd e h.1
        · exact absurd e h.2
      rcases iI z with hz | ⟨w, hw, rfl⟩
      · refine ⟨-9223372036854775808, κ, ρ, fun ρ1 Q hQ => cH0 ρ1 Q (c_rowOf1 hL hC xR (by omega) i1 (w2.trans ez) (brF (mI1 (by omega)) (brF (Int32.not_le.mpr hz) hQ))), fun κ1 Q hQ => ?_, h0.up⟩
        simp (disch := omega) only [X_X12_cell, X_X12_cell_0, X_X12_cell_12, hM.1, true_and]
        exact m_isClass1 hM hm xS.nM h12 hc1 (br1 (brF (Int32.not_le.mpr hz) hQ))
      · have hz0 : 0 ≤ nI w := Int32.not_lt.mp (pI hw)
        have mH : ∀ (κ1 : Mem) (Q : Int64 → Mem → Prop), ((mI ρ 1286 c = 2 → ((nI d = nI c → ((nI w = 0 → Q (mI ρ 1308 r).toInt64 (mg κ1 ρ)) ∧ (¬ nI w = 0 → X_X12_cell_136 G Q 1282 (nI c) (nI (rt c)) (nI r) (mI ρ 1286 c) (nI d) (nI w + (-1)) (mg κ1 ρ)))) ∧ (¬ nI d = nI c → Q (-9223372036854775808) (mg κ1 ρ)))) ∧ (¬ mI ρ 1286 c = 2 → ((mI ρ 1286 c = 0 → X_X12_cell_109 G Q 1282 (nI c) (nI (rt c)) (nI r) (mI ρ 1286 c) (nI d) (nI w) (mg κ1 ρ)) ∧ (¬ mI ρ 1286 c = 0 → ((nI c = nI (rt c) → X_X12_cell_109 G Q 1282 (nI c) (nI (rt c)) (nI r) (mI ρ 1286 c) (nI d) (nI w) (mg κ1 ρ)) ∧ (¬ nI c = nI (rt c) → X_X12_cell_136 G Q 1282 (nI c) (nI (rt c)) (nI r) (mI ρ 1286 c) (nI d) (nI w) (mg κ1 ρ))))))) → X_X12_cell G Q 1282 (nI c) y (nI w) (mg κ1 ρ) := by
          intro κ1 Q hh
          simp (disch := omega) only [X_X12_cell, X_X12_cell_0, X_X12_cell_12, hM.1, true_and]
          refine m_isClass1 hM hm xS.nM h12 hc1 (br1 (brT hz0 (m_rootOf hM hm xS hc1 (m_rowOf1 hM hm xR hr1 w1 ez (brT (Int32.not_lt.mp (pI (by omega))) ?_)))))
          simp (disch := omega) only [mI_m, mR_m, hM.1, hM.2, hm.1, hm.2, lT, lF, tT, tF, eF, pF, zT, m1F, vT, cI, true_and, and_true, true_implies, false_implies, not_false_eq_true, not_true_eq_false, forall_eq, implies_true, y4, wyr] at hh ⊢
          exact hh
        have m109 : ∀ (κ1 : Mem) (Q : Int64 → Mem → Prop), (w = 0 → Q (nI d).toInt64 (mg κ1 ρ)) → (w = 1 → Q (mI ρ 1308 r).toInt64 (mg κ1 ρ)) → (2 ≤ w → X_X12_cell_136 G Q 1282 (nI c) (nI (rt c)) (nI r) (mI ρ 1286 c) (nI d) (nI (w - 2)) (mg κ1 ρ)) → X_X12_cell_109 G Q 1282 (nI c) (nI (rt c)) (nI r) (mI ρ 1286 c) (nI d) (nI w) (mg κ1 ρ) := by
          intro κ1 Q a0 a1 a2
          unfold X_X12_cell_109
          refine ⟨fun e => a0 ((eI (b := 0) hw (by decide)).mp e), fun e0 => ⟨fun e => ?_, fun e1 => ?_⟩⟩
          · simp (disch := omega) only [mI_m, mR_m, hM.1, hM.2, hm.1, hm.2, lT, lF, tT, tF, eF, pF, zT, m1F, vT, cI, true_and, and_true, true_implies, false_implies, not_false_eq_true, not_true_eq_false, forall_eq, implies_true]
            exact a1 ((eI (b := 1) hw (by decide)).mp e)
          · have h0 : w ≠ 0 := fun h => e0 (by rw [h]; rfl)
            have h1 : w ≠ 1 := fun h => e1 (by rw [h]; rfl)
            rw [d2I (by omega)]
            exact a2 (by omega)
        have cKV : ∀ (ρ1 : Mem) (Q : Int64 → Mem → Prop), (w = 0 → Q (nI d).toInt64 (mg κ ρ1)) → (w = 1 → Q (mI ρ 1308 r).toInt64 (mg κ ρ1)) → w < 2 → ((nI w = 0 → gT G 13 = 6 ∧ gT G (mR (mg κ ρ1) 13 3) = 100 ∧ vp_in (nI (60 * rt c + i)) (gL G (mR (mg κ ρ1) 13 3)) ∧ Q ((mI (mg κ ρ1) (mR (mg κ ρ1) 13 3) (nI (60 * rt c + i)).toNatClampNeg).toInt64) (mg κ ρ1)) ∧ (¬ nI w = 0 → gT G 13 = 6 ∧ gT G (mR (mg κ ρ1) 13 4) = 100 ∧ vp_in (nI (60 * rt c + i)) (gL G (mR (mg κ ρ1) 13 4)) ∧ Q ((mI (mg κ ρ1) (mR (mg κ ρ1) 13 4) (nI (60 * rt c + i)).toNatClampNeg).toInt64) (mg κ ρ1))) := by
          intro ρ1 Q a0 a1 h2
          simp (disch := omega) only [mI_c, mR_c, hL.1, hL.2.1, hL.2.2, hC.1, hC.2.1, hC.2.2.1, lT, lF, tT, tF, eF, pF, zT, m1F, vT, cI, true_and, and_true, true_implies, false_implies, not_false_eq_true, not_true_eq_false, forall_eq, implies_true, w3', w4]
          exact ⟨fun e => a0 ((eI (b := 0) hw (by decide)).mp e), fun e => a1 (by
            have : w ≠ 0 := fun h => e (by rw [h]; rfl)
            omega)⟩
        have ge2 : (2 : Int32) ≤ nI w ↔ 2 ≤ w := lI (a := 2) (by decide) hw
        rcases wy2 with ew | ew | ew
        · -- one table
          have n2 : ¬ mI ρ 1286 c = 2 := by rw [ew]; decide
          have n1 : ¬ mI ρ 1286 c = 1 := by rw [ew]; decide
          by_cases h2 : 2 ≤ w
          · refine ⟨cva ρ d r (outr (selW 0 rt (rt c) c) (fun k w => nth (isColW 0 ρ k) (mc k) 0 w) n 0 (w - 2)), κ, ρ, fun ρ1 Q hQ => cH ρ1 Q hz0 (fun h => absurd h n1) (fun h => absurd h n2) (fun _ => ?_), fun κ1 Q hQ => mH κ1 Q (brF n2 (brT ew (m109 κ1 Q (fun h => by omega) (fun h => by omega) (fun _ => ?_)))), h0.up⟩
            · simp only [X_X5_oneCell, X_X5_oneCell_0]
              refine brT (ge2.mpr h2) ?_
              rw [show nI w - 2 = nI (w - 2) from pk_sub (a := w) (b := 2) h2]
              exact c_oneOut (way := 0) hG hC xS y3 hc1 hrc hi7 (by omega) w3' w5 (by omega) hQ
            · simp only [X_X12_cell_136, X_X12_cell_157]
              rw [ew]
              exact brF (by decide) (m_cellOut hM hm xS y3 (by omega) hc1 hrc (by omega) hQ)
          · have n2w : ¬ (2 : Int32) ≤ nI w := fun h => h2 (ge2.mp h)
            by_cases hw0 : w = 0
            · refine ⟨(nI d).toInt64, κ, ρ, fun ρ1 Q hQ => cH ρ1 Q hz0 (fun h => absurd h n1) (fun h => absurd h n2) (fun _ => ?_), fun κ1 Q hQ => mH κ1 Q (brF n2 (brT ew (m109 κ1 Q (fun h => hQ) (fun h => by omega) (fun h => absurd h h2)))), h0.up⟩
              simp only [X_X5_oneCell, X_X5_oneCell_0, X_X5_oneCell_26]
              exact brF n2w (cKV ρ1 Q (fun _ => hQ) (fun h => by omega) (by omega))
            · refine ⟨(mI ρ 1308 r).toInt64, κ, ρ, fun ρ1 Q hQ => cH ρ1 Q hz0 (fun h => absurd h n1) (fun h => absurd h n2) (fun _ => ?_), fun κ1 Q hQ => mH κ1 Q (brF n2 (brT ew (m109 κ1 Q (fun h => absurd h hw0) (fun h => hQ) (fun h => absurd h h2)))), h0.up⟩
              simp only [X_X5_oneCell, X_X5_oneCell_0, X_X5_oneCell_26]
              exact brF n2w (cKV ρ1 Q (fun h => absurd h hw0) (fun _ => hQ) (by omega))
        · -- joined
          have n2 : ¬ mI ρ 1286 c = 2 := by rw [ew]; decide
          have n0' : ¬ mI ρ 1286 c = 0 := by rw [ew]; decide
          have cJ : ∀ (ρ1 : Mem) (Q : Int64 → Mem → Prop), (isa (par ρ) d c = true → (c = rt c → X_X5_joinedCell_38 G Q 13 (nI c) (nI (60 * rt c + i)) (nI w) 1 (mg κ ρ1)) ∧ (¬ c = rt c → X_X5_joinedCell_38 G Q 13 (nI c) (nI (60 * rt c + i)) (nI w) 0 (mg κ ρ1))) → (isa (par ρ) d c = false → Q (-9223372036854775808) (mg κ ρ1)) → X_X11_cell G Q 1 (nI c) y (nI w) (mg κ ρ1) := by
            intro ρ1 Q a1 a0
            refine cH ρ1 Q hz0 (fun _ => ?_) (fun h => absurd h n2) (fun h => absurd h n0')
            simp (disch := omega) only [X_X5_joinedCell, X_X5_joinedCell_0, mI_c, mR_c, hL.1, hL.2.1, hL.2.2, hC.1, hC.2.1, hC.2.2.1, xS.r13, lT, lF, tT, tF, eF, pF, zT, m1F, vT, cI, true_and, and_true, true_implies, false_implies, not_false_eq_true, not_true_eq_false, forall_eq, implies_true, hT2.1, w3']
            refine c_isOf' hG hC xS y3 (by omega) (fun e => br1 ?_) (fun e => br0 (a0 e))
            simp (disch := omega) only [mR_c, xS.r13, hT2.1, true_and]
            exact c_rootOf1 hG hC xS hc1 ⟨fun er => (a1 e).1 ((eI (by omega) (by omega)).mp er).symm, fun er => (a1 e).2 (fun h => er (by rw [← h]))⟩
          have cCol : ∀ (ρ1 : Mem) (Q : Int64 → Mem → Prop) (v : Nat), v < 2147483648 → Q (ansV ρ r (nth (isColW 1 ρ c) (mc c) 0 v)) (mg κ ρ1) → X_X5_joinedCell_86 G Q 13 (nI (60 * rt c + i)) 13 (nI c) (nI v) (mg κ ρ1) := by
            intro ρ1 Q v hv hQ
            have hle := ownFrom_le xS hc1
            simp (disch := omega) only [X_X5_joinedCell_86, X_X5_joinedCell_111, hL.1, true_and]
            rw [nth_own xS hc1 (by decide)] at hQ
            exact c_ownColumn hG hC xS hc1 hv (c_ansget hL hC hi7 (fun m hm => by have := nth_inl _ _ _ _ hm; omega) w5 hQ)
          have m136 : ∀ (κ1 : Mem) (Q : Int64 → Mem → Prop) (v : Nat), v < 2147483648 → (isa (par ρ) d c = true → Q (ansV ρ r (nth (isColW 1 ρ c) (mc c) 0 v)) (mg κ1 ρ)) → (isa (par ρ) d c = false → Q (-9223372036854775808) (mg κ1 ρ)) → X_X12_cell_136 G Q 1282 (nI c) (nI (rt c)) (nI r) (mI ρ 1286 c) (nI d) (nI v) (mg κ1 ρ) := by
            intro κ1 Q v hv a1 a0
            simp only [X_X12_cell_136, X_X12_cell_157]
            rw [ew]
            refine brT (by trivial) ⟨hM.1, m_isA0 hM hm xS.par h12 y3 (by omega) (fun e => br1 (m_cellOut hM hm xS y3 (by omega) hc1 hrc hv ?_)) (fun e => br0 (a0 e))⟩
            rw [cva_one hc1 (by decide) e]
            exact a1 e
          by_cases hi : isa (par ρ) d c = true
          · by_cases hcr : c = rt c
            · by_cases h2 : 2 ≤ w
              · refine ⟨ansV ρ r (nth (isColW 1 ρ c) (mc c) 0 (w - 2)), κ, ρ, fun ρ1 Q hQ => cJ ρ1 Q (fun _ => ⟨fun _ => ?_, fun h => absurd hcr h⟩) (fun h => by rw [hi] at h; cases h), fun κ1 Q hQ => mH κ1 Q (brF n2 (brF n0' (brT (by rw [← hcr]) (m109 κ1 Q (fun h => by omega) (fun h => by omega) (fun _ => m136 κ1 Q (w - 2) (by omega) (fun _ => hQ) (fun h => by rw [hi] at h; cases h)))))), h0.up⟩
                simp only [X_X5_joinedCell_38, X_X5_joinedCell_72]
                refine br1 (brT (ge2.mpr h2) (br1 ?_))
                rw [show nI w - 2 = nI (w - 2) from pk_sub (a := w) (b := 2) h2]
                exact cCol ρ1 Q (w - 2) (by omega) hQ
              · have n2w : ¬ (2 : Int32) ≤ nI w := fun h => h2 (ge2.mp h)
                by_cases hw0 : w = 0
                · refine ⟨(nI d).toInt64, κ, ρ, fun ρ1 Q hQ => cJ ρ1 Q (fun _ => ⟨fun _ => ?_, fun h => absurd hcr h⟩) (fun h => by rw [hi] at h; cases h), fun κ1 Q hQ => mH κ1 Q (brF n2 (brF n0' (brT (by rw [← hcr]) (m109 κ1 Q (fun _ => hQ) (fun h => by omega) (fun h => absurd h h2))))), h0.up⟩
                  simp only [X_X5_joinedCell_38, X_X5_joinedCell_71]
                  exact br1 (brF n2w (cKV ρ1 Q (fun _ => hQ) (fun h => by omega) (by omega)))
                · refine ⟨(mI ρ 1308 r).toInt64, κ, ρ, fun ρ1 Q hQ => cJ ρ1 Q (fun _ => ⟨fun _ => ?_, fun h => absurd hcr h⟩) (fun h => by rw [hi] at h; cases h), fun κ1 Q hQ => mH κ1 Q (brF n2 (brF n0' (brT (by rw [← hcr]) (m109 κ1 Q (fun h => absurd h hw0) (fun _ => hQ) (fun h => absurd h h2))))), h0.up⟩
                  simp only [X_X5_joinedCell_38, X_X5_joinedCell_71]
                  exact br1 (brF n2w (cKV ρ1 Q (fun h => absurd h hw0) (fun _ => hQ) (by omega)))
            · refine ⟨ansV ρ r (nth (isColW 1 ρ c) (mc c) 0 w), κ, ρ, fun ρ1 Q hQ => cJ ρ1 Q (fun _ => ⟨fun h => absurd h hcr, fun _ => ?_⟩) (fun h => by rw [hi] at h; cases h), fun κ1 Q hQ => mH κ1 Q (brF n2 (brF n0' (brF (fun h => hcr ((eI (by omega) (by omega)).mp h)) (m136 κ1 Q w hw (fun _ => hQ) (fun h => by rw [hi] at h; cases h))))), h0.up⟩
              simp only [X_X5_joinedCell_38, X_X5_joinedCell_72]
              exact brT trivial (brT trivial (cCol ρ1 Q w hw hQ))
          · have hi' : isa (par ρ) d c = false := by cases hb : isa (par ρ) d c with
              | true => exact absurd hb hi
              | false => rfl
            have hcr : ¬ c = rt c := fun h => by
              have := isa_rt' xS d y3
              rw [y5, ← h] at this
              exact hi this
            exact ⟨-9223372036854775808, κ, ρ, fun ρ1 Q hQ => cJ ρ1 Q (fun h => absurd h hi) (fun _ => hQ), fun κ1 Q hQ => mH κ1 Q (brF n2 (brF n0' (brF (fun h => hcr ((eI (by omega) (by omega)).mp h)) (m136 κ1 Q w hw (fun h => absurd h hi) (fun _ => hQ))))), h0.up⟩
        · -- a table for each class
          have n1 : ¬ mI ρ 1286 c = 1 := by rw [ew]; decide
          have n0' : ¬ mI ρ 1286 c = 0 := by rw [ew]; decide
          have cO : ∀ (ρ1 : Mem) (Q : Int64 → Mem → Prop), ((nI d = nI c → ((nI w = 0 → Q (mI ρ 1308 r).toInt64 (mg κ ρ1)) ∧ (¬ nI w = 0 → X_X5_columnFrom G (fun w5 s4 => ((w5 = (-1 : Int32) → Q (-9223372036854775808) s4) ∧ (¬ w5 = (-1 : Int32) → X_X5_get G (fun w7 s6 => Q (w7.toInt64) s6) 13 (nI (60 * rt c + i)) w5 s4))) 13 (nI c) 0 (nI w - 1) (mg κ ρ1)))) ∧ (¬ nI d = nI c → Q (-9223372036854775808) (mg κ ρ1))) → X_X11_cell G Q 1 (nI c) y (nI w) (mg κ ρ1) := by
            intro ρ1 Q hh
            refine cH ρ1 Q hz0 (fun h => absurd h n1) (fun _ => ?_) (fun h => absurd h n0')
            simp (disch := omega) only [X_X5_ownCell, X_X5_ownCell_0, X_X5_ownCell_57, mI_c, mR_c, hL.1, hL.2.1, hL.2.2, hC.1, hC.2.1, hC.2.2.1, lT, lF, tT, tF, eF, pF, zT, m1F, vT, cI, true_and, and_true, true_implies, false_implies, not_false_eq_true, not_true_eq_false, forall_eq, implies_true, w3', w4] at hh ⊢
            exact hh
          by_cases hdc : d = c
          · by_cases hw0 : w = 0
            · exact ⟨(mI ρ 1308 r).toInt64, κ, ρ, fun ρ1 Q hQ => cO ρ1 Q (brT (by rw [hdc]) (brT (by rw [hw0]; rfl) hQ)), fun κ1 Q hQ => mH κ1 Q (brT ew (brT (by rw [hdc]) (brT (by rw [hw0]; rfl) hQ))), h0.up⟩
            · have hwn : ¬ nI w = 0 := fun h => hw0 ((eI (b := 0) hw (by decide)).mp h)
              have eW : nth (isColW 2 ρ c) (mc c) 0 (w - 1) = nth (isCol ρ c) (mc c - 0) 0 (w - 1) := nth_cg _ _ _ (fun i _ _ => by unfold isColW isCol; simp only [true_or, and_true])
              refine ⟨ansV ρ r (nth (isColW 2 ρ c) (mc c) 0 (w - 1)), κ, ρ, fun ρ1 Q hQ => cO ρ1 Q (brT (by rw [hdc]) (brF hwn ?_)), fun κ1 Q hQ => mH κ1 Q (brT ew (brT (by rw [hdc]) (brF hwn ?_))), h0.up⟩
              · rw [s1I (by omega)]
                rw [eW] at hQ
                exact c_columnFrom (fr := 0) hG hC xS hc1 (Nat.zero_le _) (by omega) (c_ansget hL hC hi7 (fun m hm => by have := nth_inl _ _ _ _ hm; omega) w5 hQ)
              · rw [d1I (by omega)]
                simp only [X_X12_cell_136, X_X12_cell_157]
                rw [ew]
                refine brF (by decide) (m_cellOut hM hm xS y3 (by omega) hc1 hrc (by omega) ?_)
                rw [cva_one hc1 (by decide) (by rw [hdc]; exact isa_self _ _)]
                exact hQ
          · have hn : ¬ nI d = nI c := fun h => hdc ((eI (by omega) (by omega)).mp h)
            exact ⟨-9223372036854775808, κ, ρ, fun ρ1 Q hQ => cO ρ1 Q (brF hn hQ), fun κ1 Q hQ => mH κ1 Q (brT ew (brF hn hQ)), h0.up⟩
    · refine ⟨-9223372036854775808, κ, ρ, fun ρ1 Q hQ => cH0 ρ1 Q (c_rowOf0 hL hC xR (by omega) q1 (brT rfl hQ)), fun κ1 Q hQ => ?_, h0.up⟩
      simp (disch := omega) only [X_X12_cell, X_X12_cell_0, X_X12_cell_12, hM.1, true_and]
      exact m_isClass1 hM hm xS.nM h12 hc1 (br1 ⟨fun _ => m_rootOf hM hm xS hc1 (m_rowOf0 hM hm xR.2.1 h720 q2 (brF (by decide) hQ)), fun _ => hQ⟩)
  · refine ⟨-9223372036854775808, κ, ρ, fun ρ1 Q hQ => ?_, fun κ1 Q hQ => ?_, h0.up⟩
    · simp (disch := omega) only [X_X11_cell, X_X11_cell_0, X_X11_cell_49, mR_c, hL.1, hC.1, xS.r13, hT2.1, true_and]
      refine c_kindAt0 hG hC xS hx ?_
      simp (disch := omega) only [mR_c, hL.1, hC.1, xS.r13, hT2.1, true_and]
      exact c_rootOf0 hG hC xS hx (c_rowOfN (brT trivial hQ))
    · simp (disch := omega) only [X_X12_cell, X_X12_cell_0, X_X12_cell_12, hM.1, true_and]
      exact m_isClass0 hM hm xS.nM h12 hx (br0 hQ)
end CELL3
