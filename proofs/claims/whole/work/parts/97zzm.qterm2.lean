/-! a term, read on both sides -/
section QTT
variable {G : Lay} {κ0 ρ0 κa ρa κ κ' ρ ρ' ρ2 κ1 ρ1 κ2 : Mem} {sc n z T i i' c0 t k A S e c m nn : Nat} {st : List Nat} {B : Nat → Nat} {mc rt hc P D : Nat → Nat}
def tfC (p0 a k : Nat) : Prop := ¬ (a = 3 ∧ k = 4 ∨ a = 8 ∧ k = 1 ∨ a = 9 ∧ p0 ≤ k)
def tfM (A S a k : Nat) : Prop := ¬ (a = 1282 ∧ (49 ≤ k ∧ k ≤ 53 ∨ k = 80 ∨ k = 87) ∨ a = 1344 ∧ S ≤ k ∨ 1339 ≤ a ∧ a ≤ 1343 ∧ k = A)
theorem QT.term (h : QT κ0 ρ0 sc n mc B z T c0 0 κ ρ i st 0 A S P D) (hP : QP κ0 ρ0 sc B z T κ' ρ' i') (fC : Eqv (tfC (P A)) κ κ') (fM : Eqv (tfM A S) ρ ρ') (he : e ≤ 1) (e80 : mI ρ' 1282 80 = nI (A + 1)) (e87 : mI ρ' 1282 87 = nI (S + nn + 1)) (e81 : mI κ' 8 1 = nI (P A + nn + 5 - 2 * e)) (a1 : mI ρ' 1339 A = nI e ∧ mI ρ' 1340 A = nI S ∧ mI ρ' 1341 A = nI (nn + 1)) (a2 : mI κ' 9 (P A) = nI (4 - e) ∧ mI κ' 9 (P A + 1) = nI (nn + 1)) (a3 : ∀ q, q < nn + 1 → mI κ' 9 (P A + 2 + q) = mI ρ' 1344 (S + q)) (a4 : e = 0 → mI κ' 9 (P A + nn + 3) = mI ρ' 1342 A ∧ mI κ' 9 (P A + nn + 4) = mI ρ' 1343 A) (a5 : c < n ∧ m < mc c ∧ Pth n mc ρ' c0 S nn c ∧ mI ρ' 1344 (S + nn) = nI m) (b1 : P A + nn + 9 - 2 * e + st.length ≤ 2 * i') (b2 : S + nn + 1 ≤ i') (b3 : i < i') : QT κ0 ρ0 sc n mc B z T c0 1 κ' ρ' i' st 0 (A + 1) (S + nn + 1) (updN P (A + 1) (P A + nn + 5 - 2 * e)) (updN D (A + 1) (D A + 1)) := by
  obtain ⟨-, ⟨m1, m2, m3, m4, m5⟩, ⟨c1, c2, c3, c4⟩, ⟨s1, s2, s3⟩, ⟨w1, w2⟩, pr, d, ⟨y1, y2, y3⟩, c0n⟩ := h
  obtain ⟨p1, p2, p3, p4, p5, p6⟩ := id pr
  have wb := w1.bnd.2.1
  have g : ∀ a k, a ≠ 1282 → a ≠ 1344 → (a < 1339 ∨ 1343 < a ∨ k ≠ A) → mI ρ' a k = mI ρ a k := fun a k x y z => fM.I (by unfold tfM; omega)
  have eP : ∀ j, j ≤ A → updN P (A + 1) (P A + nn + 5 - 2 * e) j = P j := fun j hj => updN_no (by omega)
  have eD : ∀ j, j ≤ A → updN D (A + 1) (D A + 1) j = D j := fun j hj => updN_no (by omega)
  refine ⟨hP, ⟨e80, e87, ?_, ?_, ?_⟩, ⟨?_, ?_, ?_, ?_⟩, ⟨s1.fr fun q hq => g _ _ (by decide) (by decide) (by omega), s2.fr fun q hq => fC.I (by unfold tfC; omega), fun q hq => by omega⟩, ⟨w1, w2⟩, ⟨fun j hj => ?_, fun j hj => ?_, fun j x y => by omega, ?_, ?_, by omega⟩, ?_, ⟨?_, by omega, b2⟩, c0n⟩
  · rw [fM.I (by unfold tfM; omega)]; exact m3
  · rw [fM.I (by unfold tfM; omega)]; exact m4
  · rw [fM.I (by unfold tfM; omega)]; exact m5
  · rw [fC.I (by unfold tfC; omega)]; exact c1
  · rw [show A + 1 - 0 = A + 1 by omega, updN_is]; exact e81
  · rw [fC.I (by unfold tfC; omega)]; exact c3
  · rw [fC.I (by unfold tfC; omega)]; exact c4
  · by_cases ej : j = A
    · subst ej
      refine Or.inr ⟨e, S, nn, c, m, he, a1, by omega, a5, ?_, ?_⟩
      · rw [eD j (Nat.le_refl _)]; omega
      · rw [updN_is, eD j (Nat.le_refl _)]
    · exact (p1 j (by omega)).fr (by omega) (fun a x y => g a j (by omega) (by omega) (by omega)) (fun q hq => fM.I (by unfold tfM; omega)) (fun j => ⟨g _ _ (by decide) (by decide) (by omega), g _ _ (by decide) (by decide) (by omega)⟩) ⟨eD j (by omega), eD (j + 1) (by omega)⟩
  · by_cases ej : j = A
    · subst ej
      unfold ActC
      rw [eP j (Nat.le_refl _), updN_is]
      exact Or.inr ⟨e, S, nn, ⟨he, by omega⟩, a1, a2, a3, rfl, a4⟩
    · have hj2 : j < A - 0 := by omega
      have le := pr.le' (a := j + 1) (b := A) (by omega) (Nat.le_refl _)
      exact (p2 j hj2).fr (by omega) (fun a x y => g a j (by omega) (by omega) (by omega)) (fun q hq => fM.I (by unfold tfM; omega)) (fun q hq => fC.I (by unfold tfC; omega)) ⟨eP j (by omega), eP (j + 1) (by omega)⟩
  · rw [eP 0 (by omega)]; exact p4
  · rw [eD 0 (by omega)]; exact p5
  · rw [updN_is]; omega
  · rw [updN_is]; omega
theorem m_does (hM : LyM G) (hm : StM ρ) (e : mI ρ 1282 80 = nI A) (hA : A < 3200) {x1 x2 x3 x4 x5 : Int32} {Q : Mem → Prop} (q : Q (mg κ1 (sI (sI (sI (sI (sI (sI ρ 1339 A x1) 1340 A x2) 1341 A x3) 1342 A x4) 1343 A x5) 1282 80 (nI (A + 1))))) : X_X12_does G Q 1282 x1 x2 x3 x4 x5 (mg κ1 ρ) := by
  simp (disch := omega) only [X_X12_does, X_X12_does_0, mI_m, mR_m, mJ_m, sI_m, sJ_m, hM.1, hM.2, hm.1, hm.2, lT, lF, tT, tF, eF, pF, zT, m1F, vT, cI, true_and, and_true, true_implies, false_implies, not_false_eq_true, not_true_eq_false, forall_eq, implies_true, I_is, I_cl, I_sl, J_is, J_cl, J_sl, R_is, R_cl, R_sl, mI_sJ, mI_sR, mJ_sI, mJ_sR, mR_sI, mR_sJ, e, nI_1]
  exact q
theorem j_termE (hG : Ly G) (hS : RelS sc n mc rt hc κ0 ρ0) (hN : RelN sc n mc κ0 ρ0) (h : QT κ0 ρ0 sc n mc B z T c0 0 κ ρ i st 0 A S P D) (a : twd B z (pos B z i) = nI 22) : Jq κ0 ρ0 (fun Q σ => X_X4_readTerm G Q 11 σ) (fun Q σ => X_X12_advance G (fun s2 => X_X12_readPath G Q 1282 1 s2) 1282 σ) (fun κ' ρ' => ∃ i' S' P' D', i < i' ∧ QT κ0 ρ0 sc n mc B z T c0 1 κ' ρ' i' st 0 (A + 1) S' P' D') κ ρ := by
  have hL := hG.1
  have hM := hG.2.2.2
  obtain ⟨hP, ⟨m1, m2, m3, m4, m5⟩, ⟨c1, c2, c3, c4⟩, -, -, -, -, ⟨y1, y2, y3⟩, c0n⟩ := id h
  obtain ⟨⟨hC, hm⟩, ⟨hTC, hTM⟩, -, -⟩ := id hP
  have hz := hTC.zz
  have i110 : ∀ {κ ρ1 : Mem}, StC κ → mR (mg κ ρ1) 11 0 = 3 := fun {κ ρ1} hC => (mR_c (by decide) _).trans hC.1.2.2.2.2.2.2.2.2.2.2.2.2.2.2.2.2.1
  have i111 : ∀ {κ ρ1 : Mem}, StC κ → mR (mg κ ρ1) 11 1 = 8 := fun {κ ρ1} hC => (mR_c (by decide) _).trans hC.1.2.2.2.2.2.2.2.2.2.2.2.2.2.2.2.2.2.1
  have g9 : gT G 3 = 9 := hL.1.2.2.2.1
  have g4 : gT G 8 = 4 := hL.1.2.2.2.2.2.2.2.2.2.2.2.1
  have g5 : gT G 11 = 5 := hL.1.2.2.2.2.2.2.2.2.2.2.2.2.2.2.2.2.1
  have hi : i < T := hTC.lt (by rw [((twd_k (by decide)).mp a).1]; decide)
  obtain ⟨ρ2, r2, s2, e2, t2⟩ := m_adv hM hm hTC hTM hi
  have h2 := h.ps hi s2 e2 t2
  obtain ⟨hP2, ⟨m1, m2, m3, m4, m5⟩, ⟨c1, c2, c3, c4⟩, -⟩ := id h2
  have c2 : mI (psC κ i) 8 1 = nI (P A) := c2
  obtain ⟨⟨hC2, -⟩, -⟩ := id hP2
  obtain ⟨κb, eb⟩ : ∃ κb, κb = sI (sI (sI (sI (psC κ i) 9 (P A) 3) 8 1 (nI (P A + 1))) 9 (P A + 1) 0) 8 1 (nI (P A + 1 + 1)) := ⟨_, rfl⟩
  have hCb : StC κb := by subst eb; exact (((hC2.wI _ _ _).wI _ _ _).wI _ _ _).wI _ _ _
  have hPb : QP κ0 ρ0 sc B z T κb ρ2 (i + 1) := hP2.fr hCb s2 (by subst eb; exact (((Eqv.wI (fun h => h (by omega)) _).sI (fun h => h (by omega)) _).sI (fun h => h (by omega)) _).sI (fun h => h (by omega)) _) Eqv.rf
  have hI : PthI κ0 ρ0 sc n mc B z T κb ρ2 c0 S (P A) (st.length + 2) κb ρ2 (i + 1) c0 0 := by
    refine ⟨hPb, ⟨?_, m2⟩, fun q hq => by omega, ⟨c0n, fun _ => c0, rfl, rfl, fun q hq => by omega⟩, ⟨Eqv.rf, Eqv.rf⟩, by omega, by omega, by omega⟩
    subst eb; exact I_is _ _ _ _
  have goC : ∀ ρ1 (Q : Int32 → Mem → Prop), Lw (X_X4_readPath_33_s G (fun w16 s15 => ((w16 = 0 → X_X4_readTerm_34 G Q (0 : Int32) s15) ∧ (¬ w16 = 0 → X_X4_readTerm_34 G Q (1 : Int32) s15))) 11 1 (nI (P A + 1))) (nI c0, 1, 0, nI (0 + 1), mg κb ρ1) → X_X4_readTerm G Q 11 (mg κ ρ1) := fun ρ1 Q hh => by
    unfold X_X4_readTerm X_X4_readTerm_0
    rw [i110 hC]
    refine ⟨g5, g9, c_takes1 hL hC hTC (aK a (by decide) rfl) (br1 ?_)⟩
    rw [i111 hC2]
    refine ⟨g4, q_add hL hC2 c2 (by omega) ?_⟩
    have hC3 : StC (sI (sI (psC κ i) 9 (P A) 3) 8 1 (nI (P A + 1))) := (hC2.wI _ _ _).wI _ _ _
    unfold X_X4_readPath X_X4_readPath_0
    rw [i111 hC3, mI_c (by decide), I_is]
    refine ⟨g5, g4, q_add hL hC3 (I_is _ _ _ _) (by omega) ?_⟩
    rw [← eb, i111 hCb, mI_c (by decide), show mI κb 8 0 = nI c0 from by subst eb; simp (disch := omega) only [I_is, I_cl, I_sl, J_is, J_cl, J_sl, R_is, R_cl, R_sl, mI_sJ, mI_sR, mJ_sI, mJ_sR, mR_sI, mR_sJ]; exact c1]
    exact ⟨g4, hh⟩
  have goM : ∀ κ1 (Q : Int32 → Mem → Prop), Lw (X_X12_readPath_16_s G Q 1282 1 (nI S)) (nI c0, 0, 1, mg κ1 ρ2) → X_X12_advance G (fun s2 => X_X12_readPath G Q 1282 1 s2) 1282 (mg κ1 ρ) := fun κ1 Q hh => r2 κ1 _ (by
    unfold X_X12_readPath X_X12_readPath_0
    rw [mI_m (by decide), mI_m (by decide), m4, m2]
    exact ⟨hM.1, hh⟩)
  rcases j_path hG hS hN (T - (i + 1)) (i + 1) c0 0 κb ρ2 0 0 rfl hI with ⟨κf, ρf, x1, x2, x3⟩ | ⟨κf, ρf, i', c', m', nn', x0, x1, x2, x3⟩
  · exact Jq.fail (fun ρ1 Q hQ => goC ρ1 Q (x2 ρ1 _ (brT rfl ⟨bz0, hQ⟩))) (fun κ1 Q hQ => goM κ1 Q (x3 κ1 Q hQ)) x1
  · obtain ⟨hPf, ⟨z1, z2, z3⟩, z4, ⟨z5, z6, z7, z8⟩, ⟨z9, z10⟩, ⟨z11, z12⟩, -⟩ := x1
    obtain ⟨⟨hCf, hmf⟩, ⟨hTCf, hTMf⟩, -⟩ := id hPf
    have hzf := hTCf.zz
    have e80 : mI ρf 1282 80 = nI A := by rw [z10.I (by unfold pfM; omega)]; exact m1
    have x' : ¬ mR κ0 (sc + 5 + 5 * c') m' = 0 := by have := (hS.mem z5 z6).1; omega
    obtain ⟨ρg, eg⟩ : ∃ ρg, ρg = sI (sI (sI (sI (sI (sI ρf 1339 A 1) 1340 A (nI S)) 1341 A (nI (nn' + 1))) 1342 A 0) 1343 A 0) 1282 80 (nI (A + 1)) := ⟨_, rfl⟩
    have hmg : StM ρg := by subst eg; exact (((((hmf.wI _ _ _).wI _ _ _).wI _ _ _).wI _ _ _).wI _ _ _).wI _ _ _
    have frg : Eqv (fun a k => ¬ (1339 ≤ a ∧ a ≤ 1343 ∧ k = A ∨ a = 1282 ∧ k = 80)) ρf ρg := by
      subst eg
      refine (((((Eqv.wI ?_ _).sI ?_ _).sI ?_ _).sI ?_ _).sI ?_ _).sI ?_ _
      all_goals exact fun h => h (by omega)
    have hPg : QP κ0 ρ0 sc B z T κf ρg i' := hPf.fr hCf hmg Eqv.rf (frg.mo fun a k hh => by unfold qrM at hh; omega)
    have fCa : Eqv (tfC (P A)) κ κf := by
      refine Eqv.tr ?_ (z9.mo fun a k hh => by unfold tfC at hh; unfold pfC; omega)
      subst eb
      refine ((((Eqv.wI ?_ _).sI ?_ _).sI ?_ _).sI ?_ _).sI ?_ _
      all_goals exact fun h => h (by omega)
    have fMa : Eqv (tfM A S) ρ ρg := ((e2.mo fun a k hh => by unfold tfM at hh; unfold avM; omega).tr (z10.mo fun a k hh => by unfold tfM at hh; unfold pfM; omega)).tr (frg.mo fun a k hh => by unfold tfM at hh; omega)
    refine Jq.good (κ' := κf) (ρ' := ρg) (fun ρ1 Q hQ => goC ρ1 Q (x2 ρ1 _ (brF x' ⟨bz1, hQ⟩))) (fun κ1 Q hQ => goM κ1 Q (x3 κ1 Q fun c2 => Lw.fin fun K => brT rfl (br1 ⟨hM.1, ?_⟩))) ⟨i', S + nn' + 1, _, _, by omega, h.term (e := 1) (nn := nn') (c := c') (m := m') hPg fCa fMa (by decide) ?_ ?_ ?_ ⟨?_, ?_, ?_⟩ ⟨?_, z2⟩ (fun q hq => ?_) (fun h => by omega) ⟨z5, z6, ?_, ?_⟩ (by omega) (by omega) (by omega)⟩
    · rw [mI_m (by decide), z3, pk_sub (by omega), show S + nn' + 1 - S = nn' + 1 by omega]
      refine m_does hM hmf e80 (by omega) ?_
      rw [← eg]
      exact ⟨bz1, hQ⟩
    · subst eg; exact I_is _ _ _ _
    · rw [frg.I (by omega)]; exact z3
    · rw [z1, show P A + nn' + 5 - 2 * 1 = P A + 3 + nn' by omega]
    · subst eg; simp (disch := omega) only [I_is, I_cl, I_sl, J_is, J_cl, J_sl, R_is, R_cl, R_sl, mI_sJ, mI_sR, mJ_sI, mJ_sR, mR_sI, mR_sJ]; rfl
    · subst eg; simp (disch := omega) only [I_is, I_cl, I_sl, J_is, J_cl, J_sl, R_is, R_cl, R_sl, mI_sJ, mI_sR, mJ_sI, mJ_sR, mR_sI, mR_sJ]
    · subst eg; simp (disch := omega) only [I_is, I_cl, I_sl, J_is, J_cl, J_sl, R_is, R_cl, R_sl, mI_sJ, mI_sR, mJ_sI, mJ_sR, mR_sI, mR_sJ]
    · rw [z9.I (by unfold pfC; omega)]; subst eb; simp (disch := omega) only [I_is, I_cl, I_sl, J_is, J_cl, J_sl, R_is, R_cl, R_sl, mI_sJ, mI_sR, mJ_sI, mJ_sR, mR_sI, mR_sJ]; rfl
    · rw [frg.I (by omega)]; exact z4 q hq
    · exact z7.fr (fun q hq => frg.I (by omega)) (fun j => ⟨frg.I (by omega), frg.I (by omega)⟩)
    · rw [frg.I (by omega)]; exact z8
end QTT
