/-! isTrueOf against isTold -/
section QTR
variable {G : Lay} {κ κ' ρ ρ' κ1 ρ1 : Mem} {sc n r0 c0 A S f i r cc : Nat} {mc rt hc K N P D : Nat → Nat}
def exC (a k : Nat) : Prop := ¬ (a = 10 ∨ a = 1281 ∨ a = 1 ∧ k = 12)
def exM (a k : Nat) : Prop := ¬ (a = 1347 ∨ a = 1327 ∨ a = 1345 ∨ a = 1282 ∧ (k = 60 ∨ k = 90))
theorem EV.fr (h : EV sc n mc rt hc K N r0 c0 A S P D κ ρ) (hC : StC κ') (hm : StM ρ') (e1 : Eqv exC κ κ') (e2 : Eqv exM ρ ρ') : EV sc n mc rt hc K N r0 c0 A S P D κ' ρ' := by
  obtain ⟨-, xS, xR, xY, pr, ⟨a1, a2, a3⟩, ⟨a4, a5⟩, a6, a7⟩ := h
  have hs := xS.1
  have gI : ∀ a k, a = 8 ∨ a = 9 → mI κ' a k = mI κ a k := fun a k h => e1.I (by unfold exC; omega)
  have gM : ∀ a k, (a ≠ 1347 ∧ a ≠ 1327 ∧ a ≠ 1345 ∧ a ≠ 1282) ∨ a = 1282 ∧ k ≠ 60 ∧ k ≠ 90 → mI ρ' a k = mI ρ a k := fun a k h => e2.I (by unfold exM; omega)
  have em : Eqv sM ρ ρ' := e2.mo fun a k q => by unfold sM at q; unfold exM; omega
  refine ⟨⟨hC, hm⟩, xS.fr (e1.mo fun a k q => by unfold sCc at q; unfold exC; omega) em, xR.fr (e1.mo fun a k q => by unfold rC at q; unfold exC; omega) (e2.mo fun a k q => by unfold rM at q; unfold exM; omega), xY.fr xS (e2.mo fun a k q => by unfold rM at q; unfold exM; omega) em, pr.fr (fun a j hj x y => gM _ _ (by omega)) (fun q hq => gM _ _ (by omega)) (fun j => ⟨gM _ _ (by omega), gM _ _ (by omega)⟩) (fun q hq => gI _ _ (by omega)), ⟨?_, ?_, a3⟩, ⟨?_, ?_⟩, a6, a7⟩
  · rw [gI _ _ (by omega)]; exact a1
  · rw [gM _ _ (by omega)]; exact a2
  · rw [gI _ _ (by omega)]; exact a4
  · rw [gM _ _ (by omega)]; exact a5
theorem Prog.dep (h : Prog n mc κ ρ c0 A 0 S P D) : ∀ j, j ≤ A → D j ≤ 64 ∧ j ≤ P j := by
  intro j
  induction j with
  | zero => intro _; rw [h.2.2.2.2.1]; exact ⟨by decide, Nat.zero_le _⟩
  | succ j ih =>
    intro hj
    obtain ⟨d1, d2⟩ := ih (by omega)
    have lt := (h.2.1 j (by omega)).lt
    refine ⟨?_, by omega⟩
    rcases h.1 j (by omega) with ⟨op, h1, -, h3, h4⟩ | ⟨e, fr, cnt, c, m, -, -, -, -, h5, h6⟩
    · by_cases e : op = 2
      · have := h3 e; omega
      · have := h4 e; omega
    · omega
theorem j_told (hG : Ly G) (hE0 : EV sc n mc rt hc K N r0 c0 A S P D κ ρ) (hf : f < 12) (hi : i < N f) (hr : r < r0) (hro : RowR κ ρ f i r) (hcc : cc < n) (e07 : mI ρ 1307 r = nI cc) (hisa : isa (par ρ) cc c0 = true) : ∀ d j κ' ρ', A - j = d → j ≤ A → StC κ' → StM ρ' → Eqv (fun a _ => a ≠ 10) κ κ' → Eqv (fun a _ => a ≠ 1347) ρ ρ' → (∀ q, q < D j → mI κ' 10 q = mI ρ' 1347 q) → ∃ b κe ρe, (b = 0 ∨ b = 1) ∧ (StC κe ∧ StM ρe) ∧ (Eqv (fun a _ => a ≠ 10) κ κe ∧ Eqv (fun a _ => a ≠ 1347) ρ ρe) ∧ (∀ ρ1 (Q : Int32 → Mem → Prop), Q b (mg κe ρ1) → Lw (X_X3_isTrueOf_8_s G Q 8 13 (nI (60 * f + i))) (nI (D j), nI (P j), nI j, mg κ' ρ1)) ∧ ∀ κ1 (Q : Int32 → Mem → Prop), Q b (mg κ1 ρe) → Lw (X_X12_isTold_4_s G Q 1282 (nI r)) (nI (D j), nI j, mg κ1 ρ') := by
  have hL := hG.1
  have hM := hG.2.2.2
  have g6 : gT G 13 = 6 := hL.1.2.2.2.2.2.2.2.2.2.2.2.2.2.2.2.2.2.2.2.1
  have n64 : (64 : Int32) = nI 64 := rfl
  have n1 : (1 : Int32) = nI 1 := rfl
  have n2 : (2 : Int32) = nI 2 := rfl
  have n3 : (3 : Int32) = nI 3 := rfl
  have n4 : (4 : Int32) = nI 4 := rfl
  intro d
  induction d with
  | zero =>
    intro j κ' ρ' hd hj hC hm f1 f2 hv
    have ej : j = A := by omega
    subst ej
    obtain ⟨-, -, -, -, pr, -, ⟨l1, l2⟩, dA, ⟨b1, b2, b3⟩⟩ := hE0.fr hC hm (f1.mo fun a k q => by unfold exC at q; omega) (f2.mo fun a k q => by unfold exM at q; omega)
    obtain ⟨dd, dp⟩ := pr.dep j (Nat.le_refl _)
    have exC' : ∀ ρ1 (Q : Int32 → Mem → Prop) (K2 : Int32 × Int32 × Int32 × Mem → Prop), X_X3_isTrueOf_116 G Q 8 (nI (D j)) (mg κ' ρ1) → X_X3_isTrueOf_8_s G Q 8 13 (nI (60 * f + i)) K2 (nI (D j), nI (P j), nI j, mg κ' ρ1) := fun ρ1 Q K2 hh => by
      have e81 : mI (mg κ' ρ1) 8 1 = nI (P j) := (mI_c (by decide) _).trans l1
      exact ⟨hL.1.2.2.2.2.2.2.2.2.2.2.2.1, fun _ => hh, fun _ => brT (by rw [e81]; exact (lI (by omega) (by omega)).mpr (Nat.le_refl _)) hh⟩
    rcases dA with e0 | e1
    · subst e0
      have d0 : D 0 = 0 := pr.2.2.2.2.1
      refine ⟨1, κ', ρ', Or.inr rfl, ⟨hC, hm⟩, ⟨f1, f2⟩, fun ρ1 Q hQ => Lw.fin fun K2 => exC' ρ1 Q K2 ?_, fun κ1 Q hQ => Lw.fin fun K2 => ?_⟩
      · rw [d0]; exact brT rfl ⟨bz1, hQ⟩
      · have e80 : mI (mg κ1 ρ') 1282 80 = nI 0 := (mI_m (by decide) _).trans l2
        exact ⟨hM.1, brT (by rw [e80]; exact (lI (by decide) (by decide)).mpr (Nat.le_refl _)) (brT (by rw [e80]; rfl) ⟨bz1, hQ⟩)⟩
    · have ne : ¬ j = 0 := fun e => by subst e; have := pr.2.2.2.2.1; omega
      have v0 := hv 0 (by omega)
      have s11 : nI 1 - 1 = nI 0 := rfl
      have c0' : (0 : Int32).toNatClampNeg = 0 := rfl
      have vz : vp_in (0 : Int32) 3200 = True := vT (n := 0) (N := 3200) (by decide) (by decide)
      have lle : (nI j ≤ nI j) = True := lT (Nat.le_refl _) (by omega)
      have nz : (nI j = 0) = False := eq_false fun e => ne ((eI (b := 0) (by omega) (by decide)).mp e)
      have n1z : (nI 1 = 0) = False := eq_false (by decide)
      by_cases h2 : mI ρ' 1347 0 = 2
      · refine ⟨1, κ', ρ', Or.inr rfl, ⟨hC, hm⟩, ⟨f1, f2⟩, fun ρ1 Q hQ => Lw.fin fun K2 => exC' ρ1 Q K2 ?_, fun κ1 Q hQ => Lw.fin fun K2 => ?_⟩
        · rw [e1]
          simp (disch := omega) only [X_X3_isTrueOf_116, X_X3_isTrueOf_132, X_X3_isTrueOf_137, mI_c, mR_c, mJ_c, sI_c, sJ_c, sR_c, hL.1, hL.2.1, hL.2.2, hC.1, hC.2.1, hC.2.2.1, s11, v0, h2, n1z, bzT1, lT, lF, tT, tF, eF, pF, zT, m1F, vT, cI, true_and, and_true, true_implies, false_implies, not_false_eq_true, not_true_eq_false, forall_eq, implies_true]
          exact hQ
        · simp (disch := omega) only [X_X12_isTold_4_s, X_X12_isTold_176, X_X12_isTold_181, mI_m, mR_m, mJ_m, sI_m, sJ_m, hM.1, hM.2, hm.1, hm.2, l2, lle, nz, c0', vz, h2, bzT1, lT, lF, tT, tF, eF, pF, zT, m1F, vT, cI, true_and, and_true, true_implies, false_implies, not_false_eq_true, not_true_eq_false, forall_eq, implies_true]
          exact hQ
      · have t2 : (mI ρ' 1347 0 = 2) = False := eq_false h2
        refine ⟨0, κ', ρ', Or.inl rfl, ⟨hC, hm⟩, ⟨f1, f2⟩, fun ρ1 Q hQ => Lw.fin fun K2 => exC' ρ1 Q K2 ?_, fun κ1 Q hQ => Lw.fin fun K2 => ?_⟩
        · rw [e1]
          simp (disch := omega) only [X_X3_isTrueOf_116, X_X3_isTrueOf_132, X_X3_isTrueOf_137, mI_c, mR_c, mJ_c, sI_c, sJ_c, sR_c, hL.1, hL.2.1, hL.2.2, hC.1, hC.2.1, hC.2.2.1, s11, v0, t2, n1z, bzT0, lT, lF, tT, tF, eF, pF, zT, m1F, vT, cI, true_and, and_true, true_implies, false_implies, not_false_eq_true, not_true_eq_false, forall_eq, implies_true]
          exact hQ
        · simp (disch := omega) only [X_X12_isTold_4_s, X_X12_isTold_176, X_X12_isTold_181, mI_m, mR_m, mJ_m, sI_m, sJ_m, hM.1, hM.2, hm.1, hm.2, l2, lle, nz, c0', vz, t2, bzT0, lT, lF, tT, tF, eF, pF, zT, m1F, vT, cI, true_and, and_true, true_implies, false_implies, not_false_eq_true, not_true_eq_false, forall_eq, implies_true]
          exact hQ
  | succ d ih =>
    intro j κ' ρ' hd hj hC hm f1 f2 hv
    have hE := hE0.fr hC hm (f1.mo fun a k q => by unfold exC at q; omega) (f2.mo fun a k q => by unfold exM at q; omega)
    obtain ⟨-, xS, xR, xY, pr, -, ⟨l1, l2⟩, dA, ⟨b1, b2, b3⟩⟩ := id hE
    obtain ⟨dd, dp⟩ := pr.dep j (by omega)
    obtain ⟨dd2, -⟩ := pr.dep (j + 1) (by omega)
    have ltP := (pr.2.1 j (by omega)).lt
    have leP := pr.le' (a := j + 1) (b := A) (by omega) (Nat.le_refl _)
    -- go on behind act j
    have nxt : ∀ κn ρn, StC κn → StM ρn → Eqv (fun a _ => a ≠ 10) κ' κn → Eqv (fun a _ => a ≠ 1347) ρ' ρn → (∀ q, q < D (j + 1) → mI κn 10 q = mI ρn 1347 q) → (∀ ρ1 (Q : Int32 → Mem → Prop) (K2 : Int32 × Int32 × Int32 × Mem → Prop), K2 (nI (D (j + 1)), nI (P (j + 1)), nI (j + 1), mg κn ρ1) → X_X3_isTrueOf_8_s G Q 8 13 (nI (60 * f + i)) K2 (nI (D j), nI (P j), nI j, mg κ' ρ1)) → (∀ κ1 (Q : Int32 → Mem → Prop) (K2 : Int32 × Int32 × Mem → Prop), K2 (nI (D (j + 1)), nI (j + 1), mg κ1 ρn) → X_X12_isTold_4_s G Q 1282 (nI r) K2 (nI (D j), nI j, mg κ1 ρ')) → ∃ b κe ρe, (b = 0 ∨ b = 1) ∧ (StC κe ∧ StM ρe) ∧ (Eqv (fun a _ => a ≠ 10) κ κe ∧ Eqv (fun a _ => a ≠ 1347) ρ ρe) ∧ (∀ ρ1 (Q : Int32 → Mem → Prop), Q b (mg κe ρ1) → Lw (X_X3_isTrueOf_8_s G Q 8 13 (nI (60 * f + i))) (nI (D j), nI (P j), nI j, mg κ' ρ1)) ∧ ∀ κ1 (Q : Int32 → Mem → Prop), Q b (mg κ1 ρe) → Lw (X_X12_isTold_4_s G Q 1282 (nI r)) (nI (D j), nI j, mg κ1 ρ') := fun κn ρn hCn hmn g1 g2 hvn sC sM => by
      obtain ⟨b, κe, ρe, y1, y2, y3, y4, y5⟩ := ih (j + 1) κn ρn (by omega) (by omega) hCn hmn (f1.tr g1) (f2.tr g2) hvn
      exact ⟨b, κe, ρe, y1, y2, y3, fun ρ1 Q hQ => Lw.stp (fun K2 hK => sC ρ1 Q K2 hK) (y4 ρ1 Q hQ), fun κ1 Q hQ => Lw.stp (fun K2 hK => sM κ1 Q K2 hK) (y5 κ1 Q hQ)⟩
    rcases pr.1 j (by omega) with ⟨op, o1, o2, o3, o4⟩ | ⟨e, fr, cnt, cl, ml, t1, ⟨t2, t3, t4⟩, t5, ⟨t6, t7, t8, t9⟩, t10, t11⟩
    · rcases pr.2.1 j (by omega) with ⟨op', u1, u2, u3, u4⟩ | ⟨e, fr, cnt, ⟨u1, -⟩, ⟨u2, -⟩, -⟩
      · have eo : op' = op := (eI (by omega) (by omega)).mp (u2.symm.trans o2)
        subst eo
        have s1D : 0 < D j → nI (D j) - 1 = nI (D j - 1) := fun h => s1I h
        by_cases h2 : op' = 2
        · subst h2
          obtain ⟨d1, d2⟩ := o3 rfl
          have u3 : mI κ' 9 (P j) = 0 := u3
          have ev := hv (D j - 1) (by omega)
          have z0 : (nI (D j) ≤ 0) = False := eq_false fun e => by have := (lI (b := 0) (by omega) (by decide)).mp e; omega
          have s1 := s1D (by omega)
          have f03 : ((0 : Int32) = 3) = False := eq_false (by decide)
          have f04 : ((0 : Int32) = 4) = False := eq_false (by decide)
          have f00 : ((0 : Int32) = 0) = True := eq_true rfl
          refine nxt (sI κ' 10 (D j - 1) (2 - mI ρ' 1347 (D j - 1))) (sI ρ' 1347 (D j - 1) (2 - mI ρ' 1347 (D j - 1))) (hC.wI _ _ _) (hm.wI _ _ _) (Eqv.wI (fun h => h rfl) _) (Eqv.wI (fun h => h rfl) _) (fun q hq => ?_) (fun ρ1 Q K2 hK => ?_) (fun κ1 Q K2 hK => ?_)
          · by_cases eq : q = D j - 1
            · subst eq; rw [I_is, I_is]
            · rw [I_sl eq, I_sl eq]; exact hv q (by omega)
          · rw [d2, u4] at hK
            simp (disch := omega) only [X_X3_isTrueOf_8_s, X_X3_join, X_X3_join_0, X_X3_isTrueOf_110, mI_c, mR_c, mJ_c, sI_c, sJ_c, sR_c, hL.1, hL.2.1, hL.2.2, hC.1, hC.2.1, hC.2.2.1, I_is, I_cl, I_sl, J_is, J_cl, J_sl, R_is, R_cl, R_sl, mI_sJ, mI_sR, mJ_sI, mJ_sR, mR_sI, mR_sJ, l1, u3, f03, f04, f00, z0, s1, ev, nI_1, lT, lF, tT, tF, eF, pF, zT, m1F, vT, cI, true_and, and_true, true_implies, false_implies, not_false_eq_true, not_true_eq_false, forall_eq, implies_true]
            exact hK
          · rw [d2] at hK
            simp (disch := omega) only [X_X12_isTold_4_s, X_X12_isTold_153, mI_m, mR_m, mJ_m, sI_m, sJ_m, hM.1, hM.2, hm.1, hm.2, I_is, I_cl, I_sl, J_is, J_cl, J_sl, R_is, R_cl, R_sl, mI_sJ, mI_sR, mJ_sI, mJ_sR, mR_sI, mR_sJ, l2, o2, n2, eT, nI_1, lT, lF, tT, tF, eF, pF, zT, m1F, vT, cI, true_and, and_true, true_implies, false_implies, not_false_eq_true, not_true_eq_false, forall_eq, implies_true]
            have s1' : nI (D j) - nI 1 = nI (D j - 1) := s1
            simp (disch := omega) only [s1, s1', mI_m, mR_m, mJ_m, sI_m, sJ_m, hM.1, hM.2, hm.1, hm.2, I_is, I_cl, I_sl, J_is, J_cl, J_sl, R_is, R_cl, R_sl, mI_sJ, mI_sR, mJ_sI, mJ_sR, mR_sI, mR_sJ, lT, lF, tT, tF, eF, pF, zT, m1F, vT, cI, true_and, and_true, true_implies, false_implies, not_false_eq_true, not_true_eq_false, forall_eq, implies_true]
            exact hK
        · obtain ⟨d1, d2⟩ := o4 h2
          have ev1 := hv (D j - 1) (by omega)
          have ev2 := hv (D j - 2) (by omega)
          have s1 := s1D (by omega)
          have s2 : nI (D j) - 2 = nI (D j - 2) := by
            show nI (D j) - nI 2 = nI (D j - 2)
            rw [pk_sub (by omega)]
          have a1' : nI (D j) + (-1) = nI (D j - 1) := d1I (by omega)
          have s3 : nI (D j - 1) - 1 = nI (D j - 2) := by rw [s1I (by omega), show D j - 1 - 1 = D j - 2 by omega]
          have d3 : D (j + 1) = D j - 1 := by omega
          have ge2 : ((2 : Int32) ≤ nI (D j)) = True := lT (a := 2) (by omega) (by omega)
          have f01 : ((0 : Int32) = 1) = False := eq_false (by decide)
          have f10 : ((1 : Int32) = 0) = False := eq_false (by decide)
          have f11 : ((1 : Int32) = 1) = True := eq_true rfl
          have f00 : ((0 : Int32) = 0) = True := eq_true rfl
          have binr : ∀ w : Int32, (∀ ρ1 (Q : Int32 → Mem → Prop) (K2 : Int32 × Int32 × Int32 × Mem → Prop), K2 (nI (D (j + 1)), nI (P (j + 1)), nI (j + 1), mg (sI κ' 10 (D j - 2) w) ρ1) → X_X3_isTrueOf_8_s G Q 8 13 (nI (60 * f + i)) K2 (nI (D j), nI (P j), nI j, mg κ' ρ1)) → (∀ κ1 (Q : Int32 → Mem → Prop) (K2 : Int32 × Int32 × Mem → Prop), K2 (nI (D (j + 1)), nI (j + 1), mg κ1 (sI ρ' 1347 (D j - 2) w)) → X_X12_isTold_4_s G Q 1282 (nI r) K2 (nI (D j), nI j, mg κ1 ρ')) → ∃ b κe ρe, (b = 0 ∨ b = 1) ∧ (StC κe ∧ StM ρe) ∧ (Eqv (fun a _ => a ≠ 10) κ κe ∧ Eqv (fun a _ => a ≠ 1347) ρ ρe) ∧ (∀ ρ1 (Q : Int32 → Mem → Prop), Q b (mg κe ρ1) → Lw (X_X3_isTrueOf_8_s G Q 8 13 (nI (60 * f + i))) (nI (D j), nI (P j), nI j, mg κ' ρ1)) ∧ ∀ κ1 (Q : Int32 → Mem → Prop), Q b (mg κ1 ρe) → Lw (X_X12_isTold_4_s G Q 1282 (nI r)) (nI (D j), nI j, mg κ1 ρ') := fun w cC cM => nxt _ _ (hC.wI _ _ _) (hm.wI _ _ _) (Eqv.wI (fun h => h rfl) _) (Eqv.wI (fun h => h rfl) _) (fun q hq => by
            by_cases eq : q = D j - 2
            · subst eq; rw [I_is, I_is]
            · rw [I_sl eq, I_sl eq]; exact hv q (by omega)) cC cM
          obtain ⟨lf, elf⟩ : ∃ x, x = mI ρ' 1347 (D j - 2) := ⟨_, rfl⟩
          obtain ⟨rg, erg⟩ : ∃ x, x = mI ρ' 1347 (D j - 1) := ⟨_, rfl⟩
          have elf' := elf.symm
          have erg' := erg.symm
          rw [elf'] at ev2
          rw [erg'] at ev1
          rcases (by omega : op' = 3 ∨ op' = 4) with rfl | rfl
          · have u3 : mI κ' 9 (P j) = nI 1 := u3
            have q3 : (nI 1 = 3) = False := eq_false (by decide)
            have q4 : (nI 1 = 4) = False := eq_false (by decide)
            have q0 : (nI 1 = 0) = False := eq_false (by decide)
            have q1 : (nI 1 = 1) = True := eq_true rfl
            have p2 : (nI 3 = 2) = False := eq_false (by decide)
            have p3 : (nI 3 = 3) = True := eq_true rfl
            by_cases h : lf ≤ rg
            · have tL := eq_true h
              have ng : ¬ rg < lf := Int32.not_lt.mpr h
              refine binr lf (fun ρ1 Q K2 hK => ?_) (fun κ1 Q K2 hK => ?_)
              · rw [d3, u4] at hK
                simp (disch := omega) only [X_X3_isTrueOf_8_s, X_X3_join, X_X3_join_0, X_X3_join_28, X_X3_join_81, X_X3_isTrueOf_110, mI_c, mR_c, mJ_c, sI_c, sJ_c, sR_c, hL.1, hL.2.1, hL.2.2, hC.1, hC.2.1, hC.2.2.1, I_is, I_cl, I_sl, J_is, J_cl, J_sl, R_is, R_cl, R_sl, mI_sJ, mI_sR, mJ_sI, mJ_sR, mR_sI, mR_sJ, l1, u3, q3, q4, q0, q1, s1, s2, ev1, ev2, ge2, if_neg ng, nI_1, lT, lF, tT, tF, eF, pF, zT, m1F, vT, cI, true_and, and_true, true_implies, false_implies, not_false_eq_true, not_true_eq_false, forall_eq, implies_true]
                exact hK
              · rw [d3] at hK
                simp (disch := omega) only [X_X12_isTold_4_s, X_X12_isTold_63, X_X12_isTold_101, X_X12_isTold_122, X_X12_isTold_134, X_X12_isTold_153, mI_m, mR_m, mJ_m, sI_m, sJ_m, hM.1, hM.2, hm.1, hm.2, I_is, I_cl, I_sl, J_is, J_cl, J_sl, R_is, R_cl, R_sl, mI_sJ, mI_sR, mJ_sI, mJ_sR, mR_sI, mR_sJ, l2, o2, p2, p3, s1, s2, a1', s3, elf', erg', tL, f01, f10, f11, f00, nI_1, lT, lF, tT, tF, eF, pF, zT, m1F, vT, cI, true_and, and_true, true_implies, false_implies, not_false_eq_true, not_true_eq_false, forall_eq, implies_true]
                exact hK
            · have tL := eq_false h
              have ng : rg < lf := Int32.not_le.mp h
              refine binr rg (fun ρ1 Q K2 hK => ?_) (fun κ1 Q K2 hK => ?_)
              · rw [d3, u4] at hK
                simp (disch := omega) only [X_X3_isTrueOf_8_s, X_X3_join, X_X3_join_0, X_X3_join_28, X_X3_join_81, X_X3_isTrueOf_110, mI_c, mR_c, mJ_c, sI_c, sJ_c, sR_c, hL.1, hL.2.1, hL.2.2, hC.1, hC.2.1, hC.2.2.1, I_is, I_cl, I_sl, J_is, J_cl, J_sl, R_is, R_cl, R_sl, mI_sJ, mI_sR, mJ_sI, mJ_sR, mR_sI, mR_sJ, l1, u3, q3, q4, q0, q1, s1, s2, ev1, ev2, ge2, if_pos ng, nI_1, lT, lF, tT, tF, eF, pF, zT, m1F, vT, cI, true_and, and_true, true_implies, false_implies, not_false_eq_true, not_true_eq_false, forall_eq, implies_true]
                exact hK
              · rw [d3] at hK
                simp (disch := omega) only [X_X12_isTold_4_s, X_X12_isTold_63, X_X12_isTold_101, X_X12_isTold_122, X_X12_isTold_134, X_X12_isTold_153, mI_m, mR_m, mJ_m, sI_m, sJ_m, hM.1, hM.2, hm.1, hm.2, I_is, I_cl, I_sl, J_is, J_cl, J_sl, R_is, R_cl, R_sl, mI_sJ, mI_sR, mJ_sI, mJ_sR, mR_sI, mR_sJ, l2, o2, p2, p3, s1, s2, a1', s3, elf', erg', tL, f01, f10, f11, f00, nI_1, lT, lF, tT, tF, eF, pF, zT, m1F, vT, cI, true_and, and_true, true_implies, false_implies, not_false_eq_true, not_true_eq_false, forall_eq, implies_true]
                exact hK
          · have u3 : mI κ' 9 (P j) = nI 2 := u3
            have q3 : (nI 2 = 3) = False := eq_false (by decide)
            have q4 : (nI 2 = 4) = False := eq_false (by decide)
            have q0 : (nI 2 = 0) = False := eq_false (by decide)
            have q1 : (nI 2 = 1) = False := eq_false (by decide)
            have p2 : (nI 4 = 2) = False := eq_false (by decide)
            have p3 : (nI 4 = 3) = False := eq_false (by decide)
            have p4 : (nI 4 = 4) = True := eq_true rfl
            by_cases h : lf ≤ rg
            · have tL := eq_true h
              have ng : (if lf < rg then rg else lf) = rg := by
                by_cases h2 : lf < rg
                · rw [if_pos h2]
                · rw [if_neg h2]; exact Int32.le_antisymm h (Int32.not_lt.mp h2)
              refine binr rg (fun ρ1 Q K2 hK => ?_) (fun κ1 Q K2 hK => ?_)
              · rw [d3, u4] at hK
                simp (disch := omega) only [X_X3_isTrueOf_8_s, X_X3_join, X_X3_join_0, X_X3_join_28, X_X3_join_81, X_X3_isTrueOf_110, mI_c, mR_c, mJ_c, sI_c, sJ_c, sR_c, hL.1, hL.2.1, hL.2.2, hC.1, hC.2.1, hC.2.2.1, I_is, I_cl, I_sl, J_is, J_cl, J_sl, R_is, R_cl, R_sl, mI_sJ, mI_sR, mJ_sI, mJ_sR, mR_sI, mR_sJ, l1, u3, q3, q4, q0, q1, s1, s2, ev1, ev2, ge2, ng, nI_1, lT, lF, tT, tF, eF, pF, zT, m1F, vT, cI, true_and, and_true, true_implies, false_implies, not_false_eq_true, not_true_eq_false, forall_eq, implies_true]
                exact hK
              · rw [d3] at hK
                simp (disch := omega) only [X_X12_isTold_4_s, X_X12_isTold_63, X_X12_isTold_101, X_X12_isTold_122, X_X12_isTold_134, X_X12_isTold_153, mI_m, mR_m, mJ_m, sI_m, sJ_m, hM.1, hM.2, hm.1, hm.2, I_is, I_cl, I_sl, J_is, J_cl, J_sl, R_is, R_cl, R_sl, mI_sJ, mI_sR, mJ_sI, mJ_sR, mR_sI, mR_sJ, l2, o2, p2, p3, p4, s1, s2, a1', s3, elf', erg', tL, f01, f10, f11, f00, nI_1, lT, lF, tT, tF, eF, pF, zT, m1F, vT, cI, true_and, and_true, true_implies, false_implies, not_false_eq_true, not_true_eq_false, forall_eq, implies_true]
                exact hK
            · have tL := eq_false h
              have ng : (if lf < rg then rg else lf) = lf := if_neg fun h2 => h (Int32.le_of_lt h2)
              refine binr lf (fun ρ1 Q K2 hK => ?_) (fun κ1 Q K2 hK => ?_)
              · rw [d3, u4] at hK
                simp (disch := omega) only [X_X3_isTrueOf_8_s, X_X3_join, X_X3_join_0, X_X3_join_28, X_X3_join_81, X_X3_isTrueOf_110, mI_c, mR_c, mJ_c, sI_c, sJ_c, sR_c, hL.1, hL.2.1, hL.2.2, hC.1, hC.2.1, hC.2.2.1, I_is, I_cl, I_sl, J_is, J_cl, J_sl, R_is, R_cl, R_sl, mI_sJ, mI_sR, mJ_sI, mJ_sR, mR_sI, mR_sJ, l1, u3, q3, q4, q0, q1, s1, s2, ev1, ev2, ge2, ng, nI_1, lT, lF, tT, tF, eF, pF, zT, m1F, vT, cI, true_and, and_true, true_implies, false_implies, not_false_eq_true, not_true_eq_false, forall_eq, implies_true]
                exact hK
              · rw [d3] at hK
                simp (disch := omega) only [X_X12_isTold_4_s, X_X12_isTold_63, X_X12_isTold_101, X_X12_isTold_122, X_X12_isTold_134, X_X12_isTold_153, mI_m, mR_m, mJ_m, sI_m, sJ_m, hM.1, hM.2, hm.1, hm.2, I_is, I_cl, I_sl, J_is, J_cl, J_sl, R_is, R_cl, R_sl, mI_sJ, mI_sR, mJ_sI, mJ_sR, mR_sI, mR_sJ, l2, o2, p2, p3, p4, s1, s2, a1', s3, elf', erg', tL, f01, f10, f11, f00, nI_1, lT, lF, tT, tF, eF, pF, zT, m1F, vT, cI, true_and, and_true, true_implies, false_implies, not_false_eq_true, not_true_eq_false, forall_eq, implies_true]
                exact hK
      · have := (eI (by omega) (by omega)).mp (u2.symm.trans o2)
        omega
    · rcases pr.2.1 j (by omega) with ⟨op', u1, u2, u3, u4⟩ | ⟨e', fr', cnt', ⟨u1, u1'⟩, ⟨u2, u3, u4⟩, u5, u6, u7, u8⟩
      · have := (eI (by omega) (by omega)).mp (u2.symm.trans t2)
        omega
      · have ee : e' = e := (eI (by omega) (by omega)).mp (u2.symm.trans t2)
        have ef : fr' = fr := (eI (by omega) (by omega)).mp (u3.symm.trans t3)
        have ec : cnt' + 1 = cnt + 1 := (eI (by omega) (by omega)).mp (u4.symm.trans t4)
        have ec : cnt' = cnt := by omega
        subst ee ef ec
        obtain ⟨cs, s1, s2, s3⟩ := t8
        have hro' : RowR κ' ρ' f i r := hro.fr (f1.mo fun a k q => by unfold rC at q; omega) (f2.mo fun a k q => by unfold rM at q; omega)
        have e07' : mI ρ' 1307 r = nI cc := (f2.I (by omega)).trans e07
        have par' : isa (par ρ') cc (cs 0) = true := by
          rw [s1, isa_cg hE0.2.1.par hE0.2.1.le (fun c _ => f2.I (by omega)) cc hcc]; exact hisa
        obtain ⟨v, vC, vM⟩ := j_term hG hE (by omega) t1 ⟨t2, t3, t4⟩ t5 u5 u6 u7 u8 ⟨t6, t7, t9⟩ cs s2 s3 (cnt' - 0) 0 f i r rfl (Nat.zero_le _) hf hi hr hro' ⟨cc, hcc, e07', par'⟩
        refine nxt (sI κ' 10 (D j) v) (sI ρ' 1347 (D j) v) (hC.wI _ _ _) (hm.wI _ _ _) (Eqv.wI (fun h => h rfl) _) (Eqv.wI (fun h => h rfl) _) (fun q hq => ?_) (fun ρ1 Q K2 hK => ?_) (fun κ1 Q K2 hK => ?_)
        · by_cases eq : q = D j
          · subst eq; rw [I_is, I_is]
          · rw [I_sl eq, I_sl eq]; exact hv q (by omega)
        · have k4 := u5.1
          have k5 := u5.2
          rcases (by omega : e' = 1 ∨ e' = 0) with rfl | rfl
          · have k4 : mI κ' 9 (P j) = nI 3 := k4
            simp (disch := omega) only [X_X3_isTrueOf_8_s, X_X3_isTrueOf_47, X_X3_truthOfTerm, X_X3_truthOfTerm_0, mI_c, mR_c, mJ_c, sI_c, sJ_c, sR_c, hL.1, hL.2.1, hL.2.2, hC.1, hC.2.1, hC.2.2.1, l1, k4, k5, n64, n3, nI_1, eT, lT, lF, tT, tF, eF, pF, zT, m1F, vT, cI, true_and, and_true, true_implies, false_implies, not_false_eq_true, not_true_eq_false, forall_eq, implies_true]
            refine vC ρ1 _ ?_
            simp (disch := omega) only [X_X3_isTrueOf_70, X_X3_isTrueOf_92, X_X3_isTrueOf_110, mI_c, mR_c, mJ_c, sI_c, sJ_c, sR_c, hL.1, hL.2.1, hL.2.2, hC.1, hC.2.1, hC.2.2.1, I_is, I_cl, I_sl, J_is, J_cl, J_sl, R_is, R_cl, R_sl, mI_sJ, mI_sR, mJ_sI, mJ_sR, mR_sI, mR_sJ, k5, n2, nI_1, nI_add, eT, lT, lF, tT, tF, eF, pF, zT, m1F, vT, cI, true_and, and_true, true_implies, false_implies, not_false_eq_true, not_true_eq_false, forall_eq, implies_true]
            rw [t11, u7] at hK
            rw [show P j + (cnt' + 1 + 2) = P j + cnt' + 5 - 2 * 1 by omega]
            exact brT rfl hK
          · have k4 : mI κ' 9 (P j) = nI 4 := k4
            simp (disch := omega) only [X_X3_isTrueOf_8_s, X_X3_isTrueOf_47, X_X3_truthOfTerm, X_X3_truthOfTerm_0, mI_c, mR_c, mJ_c, sI_c, sJ_c, sR_c, hL.1, hL.2.1, hL.2.2, hC.1, hC.2.1, hC.2.2.1, l1, k4, k5, n64, n3, n4, nI_1, eT, lT, lF, tT, tF, eF, pF, zT, m1F, vT, cI, true_and, and_true, true_implies, false_implies, not_false_eq_true, not_true_eq_false, forall_eq, implies_true]
            refine vC ρ1 _ ?_
            simp (disch := omega) only [X_X3_isTrueOf_70, X_X3_isTrueOf_92, X_X3_isTrueOf_110, mI_c, mR_c, mJ_c, sI_c, sJ_c, sR_c, hL.1, hL.2.1, hL.2.2, hC.1, hC.2.1, hC.2.2.1, I_is, I_cl, I_sl, J_is, J_cl, J_sl, R_is, R_cl, R_sl, mI_sJ, mI_sR, mJ_sI, mJ_sR, mR_sI, mR_sJ, k5, n4, nI_1, nI_add, eT, lT, lF, tT, tF, eF, pF, zT, m1F, vT, cI, true_and, and_true, true_implies, false_implies, not_false_eq_true, not_true_eq_false, forall_eq, implies_true]
            rw [t11, u7] at hK
            rw [show P j + (cnt' + 1 + 4) = P j + cnt' + 5 - 2 * 0 by omega]
            exact brF (by decide) hK
        · have sb : nI (fr' + (cnt' + 1)) - 1 = nI (fr' + cnt') := by
            show nI (fr' + (cnt' + 1)) - nI 1 = nI (fr' + cnt')
            rw [pk_sub (by omega), show fr' + (cnt' + 1) - 1 = fr' + cnt' by omega]
          have t2' : mI ρ' 1339 j = nI e' := t2
          simp (disch := omega) only [X_X12_isTold_4_s, X_X12_told, X_X12_told_0, mI_m, mR_m, mJ_m, sI_m, sJ_m, hM.1, hM.2, hm.1, hm.2, l2, t2', t3, t4, n2, n3, n4, nI_add, sb, lT, lF, tT, tF, eF, pF, zT, m1F, vT, cI, true_and, and_true, true_implies, false_implies, not_false_eq_true, not_true_eq_false, forall_eq, implies_true]
          refine vM κ1 _ ?_
          simp (disch := omega) only [X_X12_isTold_153, mI_m, mR_m, mJ_m, sI_m, sJ_m, hM.1, hM.2, hm.1, hm.2, I_is, I_cl, I_sl, J_is, J_cl, J_sl, R_is, R_cl, R_sl, mI_sJ, mI_sR, mJ_sI, mJ_sR, mR_sI, mR_sJ, nI_1, lT, lF, tT, tF, eF, pF, zT, m1F, vT, cI, true_and, and_true, true_implies, false_implies, not_false_eq_true, not_true_eq_false, forall_eq, implies_true]
          rw [t11] at hK
          exact hK
end QTR
