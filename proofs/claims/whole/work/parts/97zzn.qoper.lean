/-! a comparison's sign and operand -/
section QOP
variable {G : Lay} {κ0 ρ0 κ κ' ρ ρ' ρ2 κ1 ρ1 κ2 : Mem} {sc n z T i io c0 A S c m nn s : Nat} {st : List Nat} {B : Nat → Nat} {mc rt hc P D : Nat → Nat}
def OpI (κ0 ρ0 : Mem) (sc n : Nat) (mc : Nat → Nat) (B : Nat → Nat) (z T c0 : Nat) (κ ρ : Mem) (i L A S p0 c m nn s : Nat) (κh ρh : Mem) (io : Nat) : Prop := QP κ0 ρ0 sc B z T κh ρh io ∧ (Eqv (tfC p0) κ κh ∧ Eqv (tfM A S) ρ ρh) ∧ (mI κh 8 1 = nI (p0 + 4 + nn) ∧ mI ρh 1282 80 = nI A ∧ mI ρh 1282 87 = nI (S + nn + 1)) ∧ (mI κh 9 p0 = 4 ∧ mI κh 9 (p0 + 1) = nI (nn + 1) ∧ mI κh 9 (p0 + 3 + nn) = nI s) ∧ (∀ q, q < nn + 1 → mI κh 9 (p0 + 2 + q) = mI ρh 1344 (S + q)) ∧ (c < n ∧ m < mc c ∧ Pth n mc ρh c0 S nn c ∧ mI ρh 1344 (S + nn) = nI m) ∧ (p0 + 8 + L + 4 * nn ≤ 2 * io ∧ S + nn + 1 ≤ io ∧ i < io)
theorem OpI.ps {L p0 : Nat} (h : OpI κ0 ρ0 sc n mc B z T c0 κ ρ i L A S p0 c m nn s κ' ρ' io) (hi : io < T) (h2 : StM ρ2) (e : Eqv avM ρ' ρ2) (tt : TM ρ2 B z (pos B z (io + 1))) : OpI κ0 ρ0 sc n mc B z T c0 κ ρ i L A S p0 c m nn s (psC κ' io) ρ2 (io + 1) := by
  obtain ⟨hP, ⟨f1, f2⟩, ⟨l1, l2, l3⟩, ⟨k1, k2, k3⟩, k4, ⟨y1, y2, y3, y4⟩, b1, b2, b3⟩ := h
  have g : ∀ a k, a ≠ 1282 → mI ρ2 a k = mI ρ' a k := fun a k h => e.I (by unfold avM; omega)
  refine ⟨hP.ps hi h2 e tt, ⟨f1.sI (fun h => h (by omega)) _, f2.tr (e.mo fun a k hh => by unfold tfM at hh; unfold avM; omega)⟩, ⟨?_, ?_, ?_⟩, ⟨?_, ?_, ?_⟩, fun q hq => ?_, ⟨y1, y2, y3.fr (fun q hq => g _ _ (by decide)) (fun j => ⟨g _ _ (by decide), g _ _ (by decide)⟩), ?_⟩, by omega, by omega, by omega⟩
  · rw [I_cl (by decide)]; exact l1
  · rw [e.I (by unfold avM; omega)]; exact l2
  · rw [e.I (by unfold avM; omega)]; exact l3
  · rw [I_cl (by decide)]; exact k1
  · rw [I_cl (by decide)]; exact k2
  · rw [I_cl (by decide)]; exact k3
  · rw [I_cl (by decide), g _ _ (by decide)]; exact k4 q hq
  · rw [g _ _ (by decide)]; exact y4
theorem OpI.fin (hG : Ly G) (h0 : QT κ0 ρ0 sc n mc B z T c0 0 κ ρ i st 0 A S P D) (h : OpI κ0 ρ0 sc n mc B z T c0 κ ρ i st.length A S (P A) c m nn s κ' ρ' io) (hi : io < T) (v : Int32) : ∃ κw κe ρe P' D', (StC κw ∧ (∀ ρ1 (Q : Mem → Prop), Q (mg κw ρ1) → X_X3_add G Q 8 v (mg κ' ρ1)) ∧ ∀ ρ1 (Q : Mem → Prop), Q (mg κe ρ1) → X_X8_pass G Q 3 (mg κw ρ1)) ∧ (∀ κ1 (Q : Int32 → Mem → Prop), Q 1 (mg κ1 ρe) → X_X12_readPath_387 G Q 1282 (nI S) (nI s) v (mg κ1 ρ')) ∧ QT κ0 ρ0 sc n mc B z T c0 1 κe ρe (io + 1) st 0 (A + 1) (S + nn + 1) P' D' := by
  have hL := hG.1
  have hM := hG.2.2.2
  obtain ⟨hP, ⟨f1, f2⟩, ⟨l1, l2, l3⟩, ⟨k1, k2, k3⟩, k4, ⟨y1, y2, y3, y4⟩, b1, b2, b3⟩ := h
  obtain ⟨⟨hC, hm⟩, ⟨hTC, hTM⟩, -⟩ := id hP
  have hz := hTC.zz
  have hA := h0.2.2.2.2.2.2.2.1.2.1
  obtain ⟨ρ2, r2, s2, e2, t2⟩ := m_adv hM hm hTC hTM hi
  obtain ⟨κw, ew⟩ : ∃ κw, κw = sI (sI κ' 9 (P A + 4 + nn) v) 8 1 (nI (P A + 4 + nn + 1)) := ⟨_, rfl⟩
  have hCw : StC κw := by subst ew; exact (hC.wI _ _ _).wI _ _ _
  have frw : Eqv (fun a k => ¬ (a = 9 ∧ k = P A + 4 + nn ∨ a = 8 ∧ k = 1)) κ' κw := by subst ew; exact (Eqv.wI (fun h => h (by omega)) _).sI (fun h => h (by omega)) _
  have hPw : QP κ0 ρ0 sc B z T κw ρ' io := hP.fr hCw hm (frw.mo fun a k hh => by unfold qrC at hh; omega) Eqv.rf
  have hP2 := hPw.ps hi s2 e2 t2
  obtain ⟨-, ⟨hTCw, -⟩, -⟩ := id hPw
  have e80 : mI ρ2 1282 80 = nI A := by rw [e2.I (by unfold avM; omega)]; exact l2
  have e87 : mI ρ2 1282 87 = nI (S + nn + 1) := by rw [e2.I (by unfold avM; omega)]; exact l3
  obtain ⟨ρg, eg⟩ : ∃ ρg, ρg = sI (sI (sI (sI (sI (sI ρ2 1339 A 0) 1340 A (nI S)) 1341 A (nI (nn + 1))) 1342 A (nI s)) 1343 A v) 1282 80 (nI (A + 1)) := ⟨_, rfl⟩
  have hmg : StM ρg := by subst eg; exact (((((s2.wI _ _ _).wI _ _ _).wI _ _ _).wI _ _ _).wI _ _ _).wI _ _ _
  have frg : Eqv (fun a k => ¬ (1339 ≤ a ∧ a ≤ 1343 ∧ k = A ∨ a = 1282 ∧ k = 80)) ρ2 ρg := by
    subst eg
    refine (((((Eqv.wI ?_ _).sI ?_ _).sI ?_ _).sI ?_ _).sI ?_ _).sI ?_ _
    all_goals exact fun h => h (by omega)
  have hPg : QP κ0 ρ0 sc B z T (psC κw io) ρg (io + 1) := hP2.fr hP2.1.1 hmg Eqv.rf (frg.mo fun a k hh => by unfold qrM at hh; omega)
  have gr : ∀ a k, a ≠ 1282 → (a < 1339 ∨ 1343 < a) → mI ρg a k = mI ρ' a k := fun a k x y => by rw [frg.I (by omega), e2.I (by unfold avM; omega)]
  have fCa : Eqv (tfC (P A)) κ (psC κw io) := (f1.tr (frw.mo fun a k hh => by unfold tfC at hh; omega)).sI (fun h => h (by omega)) _
  have fMa : Eqv (tfM A S) ρ ρg := (f2.tr (e2.mo fun a k hh => by unfold tfM at hh; unfold avM; omega)).tr (frg.mo fun a k hh => by unfold tfM at hh; omega)
  have gk : ∀ k, k < P A + 4 + nn → mI (psC κw io) 9 k = mI κ' 9 k := fun k hk => by rw [I_cl (by decide), frw.I (by omega)]
  refine ⟨κw, psC κw io, ρg, _, _, ⟨hCw, fun ρ1 Q hQ => ?_, fun ρ1 Q hQ => c_pass hL hCw hTCw hi hQ⟩, fun κ1 Q hQ => ⟨hM.1, r2 κ1 _ ?_⟩, h0.term (e := 0) (nn := nn) (c := c) (m := m) hPg fCa fMa (by decide) ?_ ?_ ?_ ⟨?_, ?_, ?_⟩ ⟨?_, ?_⟩ (fun q hq => ?_) (fun _ => ⟨?_, ?_⟩) ⟨y1, y2, ?_, ?_⟩ (by omega) (by omega) (by omega)⟩
  · refine q_add hL hC l1 (by omega) ?_
    rw [← ew]
    exact hQ
  · rw [mI_m (by decide), e87, pk_sub (by omega), show S + nn + 1 - S = nn + 1 by omega]
    refine m_does hM s2 e80 (by omega) ?_
    rw [← eg]
    exact ⟨bz1, hQ⟩
  · subst eg; exact I_is _ _ _ _
  · rw [frg.I (by omega)]; exact e87
  · rw [I_cl (by decide)]; subst ew; simp (disch := omega) only [I_is, I_cl, I_sl, J_is, J_cl, J_sl, R_is, R_cl, R_sl, mI_sJ, mI_sR, mJ_sI, mJ_sR, mR_sI, mR_sJ]; rw [show P A + 4 + nn + 1 = P A + nn + 5 - 2 * 0 by omega]
  · subst eg; simp (disch := omega) only [I_is, I_cl, I_sl, J_is, J_cl, J_sl, R_is, R_cl, R_sl, mI_sJ, mI_sR, mJ_sI, mJ_sR, mR_sI, mR_sJ]; rfl
  · subst eg; simp (disch := omega) only [I_is, I_cl, I_sl, J_is, J_cl, J_sl, R_is, R_cl, R_sl, mI_sJ, mI_sR, mJ_sI, mJ_sR, mR_sI, mR_sJ]
  · subst eg; simp (disch := omega) only [I_is, I_cl, I_sl, J_is, J_cl, J_sl, R_is, R_cl, R_sl, mI_sJ, mI_sR, mJ_sI, mJ_sR, mR_sI, mR_sJ]
  · rw [gk _ (by omega)]; exact k1
  · rw [gk _ (by omega)]; exact k2
  · rw [gk _ (by omega), gr _ _ (by decide) (by omega)]; exact k4 q hq
  · rw [show P A + nn + 3 = P A + 3 + nn by omega, gk _ (by omega), k3]; subst eg; simp (disch := omega) only [I_is, I_cl, I_sl, J_is, J_cl, J_sl, R_is, R_cl, R_sl, mI_sJ, mI_sR, mJ_sI, mJ_sR, mR_sI, mR_sJ]
  · rw [I_cl (by decide)]; subst ew eg; rw [show P A + nn + 4 = P A + 4 + nn by omega]; simp (disch := omega) only [I_is, I_cl, I_sl, J_is, J_cl, J_sl, R_is, R_cl, R_sl, mI_sJ, mI_sR, mJ_sI, mJ_sR, mR_sI, mR_sJ]
  · exact y3.fr (fun q hq => gr _ _ (by decide) (by omega)) (fun j => ⟨gr _ _ (by decide) (by omega), gr _ _ (by decide) (by omega)⟩)
  · rw [gr _ _ (by decide) (by omega)]; exact y4
theorem c_wordS (hL : LyC G) (hC : StC κ) (h : TC κ B z T i) {Q : Int64 → Mem → Prop} (a : tkd B z (pos B z i) = 4) (q : Q (lN (B (pos B z i))) (mg κ ρ1)) : X_X8_word G Q 3 (mg κ ρ1) := by
  have hz := h.zz
  simp (disch := omega) only [X_X8_word_0, X_X8_word, mI_c, mR_c, mJ_c, sI_c, sJ_c, sR_c, hL.1, hL.2.1, hL.2.2, hC.1, hC.2.1, hC.2.2.1, lT, lF, tT, tF, eF, pF, zT, m1F, vT, cI, true_and, and_true, true_implies, false_implies, not_false_eq_true, not_true_eq_false, forall_eq, implies_true, h.2.1, h.tk.2.2.2.2 a]
  exact q
end QOP
