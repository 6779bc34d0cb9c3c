section HOOKS2
variable {G : Lay} {nn sc n r0 : Nat} {mc rt hc K N us : Nat → Nat} {κ κ' ρ ρ' κ1 ρ1 : Mem} {u k t : Nat} {st : Nat → Int32} {l : List Nat}
def hvC (u a _j : Nat) : Prop := ∀ k, k < 60 → a ≠ 538 + 184 * u + 3 * k
def hvM (a _j : Nat) : Prop := a ≠ 1324
theorem o2F : ((1 : Int32) = 2) = False := eq_false (by decide)
theorem OrdC.fr (h : OrdC κ u l) (e : Eqv (hvC u) κ κ') (hu : u < 4) : OrdC κ' u l := ⟨(e.I (fun k hk => by omega)).trans h.1, fun i hi => (e.R (fun k hk => by omega)).trans (h.2 i hi)⟩
theorem OrdM.fr (h : OrdM ρ u l) (e : Eqv hvM ρ ρ') : OrdM ρ' u l := ⟨(e.I (by unfold hvM; decide)).trans h.1, fun i hi => (e.I (by unfold hvM; decide)).trans (h.2 i hi)⟩
theorem hk_hv (hu : u < 4) (hk : k < 60) (e : Eqv (hkC u k) κ κ') : Eqv (hvC u) κ κ' := e.mo fun a j h => h k hk
theorem hm_hv {p : Nat} (e : Eqv (hkM p) ρ ρ') : Eqv hvM ρ ρ' := e.mo fun a j h => fun z => h z.1
theorem j_hkN (hG : Ly G) (hu : u < 4) (h60 : us u ≤ 60) (hl : ∀ k, k ∈ l → k < us u) (hll : l.length ≤ 60) : ∀ e i, i + e = l.length → ∀ κ ρ, RelA nn sc n mc rt hc K N r0 us κ ρ → mI ρ 1316 u = 1 → (∀ k, k < us u → mI ρ 1319 (60 * u + k) = st k) → OrdC κ u l → OrdM ρ u (l.filter (nwB st)) →
    ∃ κ' ρ', (∀ ρ1 (Q : Mem → Prop), Q (mg κ' ρ1) → Lw (X_X10_runHooks_2_s G Q 1269 2) (nI i, mg κ ρ1)) ∧ (∀ κ1 (Q : Int32 → Mem → Prop), (∀ K, X_X12_writeUnit_40_s G Q 1282 (nI u) K (nI (l.filter (nwB st)).length, mg κ1 ρ')) → Lw (X_X12_writeUnit_40_s G Q 1282 (nI u)) (nI (fpos (nwB st) l i), mg κ1 ρ)) ∧ RelA nn sc n mc rt hc K N r0 us κ' ρ' ∧ Eqv (hvC u) κ κ' ∧ Eqv hvM ρ ρ' := by
  have hL := hG.1
  have hM := hG.2.2.2
  intro e
  induction e with
  | zero =>
    intro i hi κ ρ hA ho hst oc om
    have hC := hA.1.1
    obtain rfl : i = l.length := by omega
    refine ⟨κ, ρ, fun ρ1 Q hQ => Lw.fin (fun K2 => ?_), fun κ1 Q hQ => Lw.fin (fun K2 => ?_), hA, Eqv.rf, Eqv.rf⟩
    · simp (disch := omega) only [X_X10_runHooks_2_s, mI_c, hL.1, lT, lF, tT, tF, eF, pF, zT, m1F, vT, cI, true_and, and_true, true_implies, false_implies, not_false_eq_true, not_true_eq_false, forall_eq, implies_true, oc.1]
      exact hQ
    · rw [fpos_end]; exact hQ K2
  | succ e ih =>
    intro i hi κ ρ hA ho hst oc om
    obtain ⟨⟨hC, hm, hNu⟩, xT, xF, xS, xN, xK, xR, xU, xW, xD, xY, xZ⟩ := id hA
    have hT2 := hG.s xS.s2
    have hs2 := xS.s2
    have hil : i < l.length := by omega
    have hkl := hl _ (getD_mem hil)
    have oci := oc.2 i hil
    have ocn := oc.1
    have omn := om.1
    generalize ek : l.getD i 0 = k at hkl oci
    have t1 := ((xU.op hu ho).2.2.2.2 k hkl).1.trans (hst k hkl)
    by_cases hs : st k = 2
    · rw [hs] at t1
      have hs1 : mI ρ 1319 (60 * u + k) = 2 := (hst k hkl).trans hs
      obtain ⟨f, f1, f2, c, c1, c2, -⟩ := hA.liv hu ho hkl (Or.inr hs1)
      obtain ⟨κ2, ρ2, a1, a2, a3, a4, a5⟩ := j_hooks (on := 1) (wh := 0) hG hA hu ho hkl c2 c1 (Or.inl ⟨rfl, rfl⟩)
      have a4 := hk_hv hu (show k < 60 by omega) a4
      have a5 := hm_hv a5
      obtain ⟨p1, p2, p3⟩ := fpos_t (p := nwB st) l i hil (by rw [ek]; exact decide_eq_true hs)
      obtain ⟨κ3, ρ3, b1, b2, b3, b4, b5⟩ := ih (i + 1) (by omega) κ2 ρ2 a3 ((a5.I (by unfold hvM; decide)).trans ho) (fun j hj => (a5.I (by unfold hvM; decide)).trans (hst j hj)) (oc.fr a4 hu) (om.fr a5)
      have omi := om.2 _ p2
      rw [p3, ek] at omi
      have pl : (l.filter (nwB st)).length ≤ 60 := Nat.le_trans (List.length_filter_le _ _) hll
      refine ⟨κ3, ρ3, fun ρ4 Q hQ => Lw.stp (fun K2 hK => ?_) (b1 ρ4 Q hQ), fun κ4 Q hQ => Lw.stp (fun K2 hK => ?_) (b2 κ4 Q hQ), b3, a4.tr b4, a5.tr b5⟩
      · simp (disch := omega) only [X_X10_runHooks_2_s, X_X10_runHooks_37, X_X10_runHooks_55, mI_c, mR_c, hL.1, hL.2.2, hC.1, lT, lF, tT, tF, eF, pF, zT, m1F, vT, cI, true_and, and_true, true_implies, false_implies, not_false_eq_true, not_true_eq_false, forall_eq, implies_true, ocn, oci, t1, xS.r13, hT2.1]
        refine a1 ρ4 _ ?_
        simp only [X_X10_runHooks_58, nI_1]
        exact hK
      · simp (disch := omega) only [X_X12_writeUnit_40_s, mI_m, mR_m, mJ_m, sI_m, sJ_m, hM.1, hM.2, hm.1, hm.2, lT, lF, tT, tF, eF, pF, zT, m1F, vT, cI, true_and, and_true, true_implies, false_implies, not_false_eq_true, not_true_eq_false, forall_eq, implies_true, omn, omi]
        refine a2 κ4 _ ?_
        rw [nI_1, ← p1]
        exact hK
    · have pf := fpos_f (p := nwB st) l i hil (by rw [ek]; exact fun h => hs (of_decide_eq_true h))
      obtain ⟨κ3, ρ3, b1, b2, b3, b4, b5⟩ := ih (i + 1) (by omega) κ ρ hA ho hst oc om
      refine ⟨κ3, ρ3, fun ρ4 Q hQ => Lw.stp (fun K2 hK => ?_) (b1 ρ4 Q hQ), fun κ4 Q hQ => by rw [← pf]; exact b2 κ4 Q hQ, b3, b4, b5⟩
      simp (disch := omega) only [X_X10_runHooks_2_s, X_X10_runHooks_58, mI_c, mR_c, hL.1, hL.2.2, hC.1, lT, lF, tT, tF, eF, pF, zT, m1F, vT, cI, true_and, and_true, true_implies, false_implies, not_false_eq_true, not_true_eq_false, forall_eq, implies_true, ocn, oci, t1, hs, nI_1]
      exact hK
theorem j_hkL (hG : Ly G) (hu : u < 4) (h60 : us u ≤ 60) (hl : ∀ k, k ∈ l → k < us u) (hll : l.length ≤ 60) : ∀ e i, i + e = l.length → ∀ κ ρ, RelA nn sc n mc rt hc K N r0 us κ ρ → mI ρ 1316 u = 1 → (∀ k, k < us u → mI ρ 1319 (60 * u + k) = st k) → OrdC κ u l → OrdM ρ u (l.filter (ldB st)) →
    ∃ κ' ρ', (∀ ρ1 (Q : Mem → Prop), Q (mg κ' ρ1) → Lw (X_X10_runHooks_2_s G Q 1269 1) (nI i, mg κ ρ1)) ∧ (∀ κ1 (Q : Int32 → Mem → Prop), (∀ K, X_X12_writeUnit_75_s G Q 1282 (nI u) K (nI (l.filter (ldB st)).length, mg κ1 ρ')) → Lw (X_X12_writeUnit_75_s G Q 1282 (nI u)) (nI (fpos (ldB st) l i), mg κ1 ρ)) ∧ RelA nn sc n mc rt hc K N r0 us κ' ρ' ∧ Eqv (hvC u) κ κ' ∧ Eqv hvM ρ ρ' := by
  have hL := hG.1
  have hM := hG.2.2.2
  intro e
  induction e with
  | zero =>
    intro i hi κ ρ hA ho hst oc om
    have hC := hA.1.1
    obtain rfl : i = l.length := by omega
    refine ⟨κ, ρ, fun ρ1 Q hQ => Lw.fin (fun K2 => ?_), fun κ1 Q hQ => Lw.fin (fun K2 => ?_), hA, Eqv.rf, Eqv.rf⟩
    · simp (disch := omega) only [X_X10_runHooks_2_s, mI_c, hL.1, lT, lF, tT, tF, eF, pF, zT, m1F, vT, cI, true_and, and_true, true_implies, false_implies, not_false_eq_true, not_true_eq_false, forall_eq, implies_true, oc.1]
      exact hQ
    · rw [fpos_end]; exact hQ K2
  | succ e ih =>
    intro i hi κ ρ hA ho hst oc om
    obtain ⟨⟨hC, hm, hNu⟩, xT, xF, xS, xN, xK, xR, xU, xW, xD, xY, xZ⟩ := id hA
    have hT2 := hG.s xS.s2
    have hs2 := xS.s2
    have h12 := xS.le
    have hil : i < l.length := by omega
    have hkl := hl _ (getD_mem hil)
    have oci := oc.2 i hil
    have ocn := oc.1
    have omn := om.1
    generalize ek : l.getD i 0 = k at hkl oci
    obtain ⟨t1, -, -, -, -, t6⟩ := (xU.op hu ho).2.2.2.2 k hkl
    have t1 := t1.trans (hst k hkl)
    by_cases hs : st k = 1
    · rw [hs] at t1
      have hs1 : mI ρ 1319 (60 * u + k) = 1 := (hst k hkl).trans hs
      obtain ⟨f, f1, f2, c, c1, c2, c3, c4, -⟩ := hA.liv hu ho hkl (Or.inl hs1)
      obtain ⟨-, -, -, -, ew, h16, -⟩ := xS.cls c1
      have ecnt : cntB (chgM ρ (60 * u + k)) 16 = cntB (chgM ρ (60 * u + k)) (mc c) := cntB_ext 16 h16 (fun m m1 m2 => decide_eq_false (fun h => h (by rw [(c4 m m1 m2).1, (c4 m m1 m2).2])))
      have cle := cntB_le (p := chgM ρ (60 * u + k)) (mc c)
      have blt := bitsN_lt (p := chgM ρ (60 * u + k)) 16
      have ez : bitsN (chgM ρ (60 * u + k)) 16 = 0 ↔ cntB (chgM ρ (60 * u + k)) (mc c) = 0 := by rw [← ecnt, bitsN_0, cntB_0]
      obtain ⟨p1, p2, p3⟩ := fpos_t (p := ldB st) l i hil (by rw [ek]; exact decide_eq_true hs)
      have omi := om.2 _ p2
      rw [p3, ek] at omi
      have pl : (l.filter (ldB st)).length ≤ 60 := Nat.le_trans (List.length_filter_le _ _) hll
      by_cases hz : bitsN (chgM ρ (60 * u + k)) 16 = 0
      · have hz2 := ez.mp hz
        obtain ⟨κ3, ρ3, b1, b2, b3, b4, b5⟩ := ih (i + 1) (by omega) κ ρ hA ho hst oc om
        refine ⟨κ3, ρ3, fun ρ4 Q hQ => Lw.stp (fun K2 hK => ?_) (b1 ρ4 Q hQ), fun κ4 Q hQ => Lw.stp (fun K2 hK => ?_) (b2 κ4 Q hQ), b3, b4, b5⟩
        · simp (disch := omega) only [X_X10_runHooks_2_s, mI_c, mR_c, hL.1, hL.2.2, hC.1, lT, lF, tT, tF, eF, pF, zT, m1F, vT, cI, true_and, and_true, true_implies, false_implies, not_false_eq_true, not_true_eq_false, forall_eq, implies_true, ocn, oci, t1, o2F]
          refine c_changes hL hC hu (by omega) t6 ?_
          rw [hz]
          refine brT rfl ?_
          simp only [X_X10_runHooks_58, nI_1]
          exact hK
        · simp (disch := omega) only [X_X12_writeUnit_75_s, mI_m, mR_m, mJ_m, sI_m, sJ_m, hM.1, hM.2, hm.1, hm.2, lT, lF, tT, tF, eF, pF, zT, m1F, vT, cI, true_and, and_true, true_implies, false_implies, not_false_eq_true, not_true_eq_false, forall_eq, implies_true, omn, omi]
          refine m_changed hM hm (by omega) (by omega) c2 ew h16 ?_
          rw [hz2]
          refine brT (by decide) ?_
          simp only [X_X12_writeUnit_107]
          rw [nI_1, ← p1]
          exact hK
      · have hz2 := fun h => hz (ez.mpr h)
        obtain ⟨κ2, ρ2, a1, a2, a3, a4, a5⟩ := j_hooks (on := 0) (wh := 1) hG hA hu ho hkl c2 c1 (Or.inr ⟨rfl, rfl⟩)
        have a4 := hk_hv hu (show k < 60 by omega) a4
        have a5 := hm_hv a5
        obtain ⟨κ3, ρ3, b1, b2, b3, b4, b5⟩ := ih (i + 1) (by omega) κ2 ρ2 a3 ((a5.I (by unfold hvM; decide)).trans ho) (fun j hj => (a5.I (by unfold hvM; decide)).trans (hst j hj)) (oc.fr a4 hu) (om.fr a5)
        refine ⟨κ3, ρ3, fun ρ4 Q hQ => Lw.stp (fun K2 hK => ?_) (b1 ρ4 Q hQ), fun κ4 Q hQ => Lw.stp (fun K2 hK => ?_) (b2 κ4 Q hQ), b3, a4.tr b4, a5.tr b5⟩
        · simp (disch := omega) only [X_X10_runHooks_2_s, mI_c, mR_c, hL.1, hL.2.2, hC.1, lT, lF, tT, tF, eF, pF, zT, m1F, vT, cI, true_and, and_true, true_implies, false_implies, not_false_eq_true, not_true_eq_false, forall_eq, implies_true, ocn, oci, t1, o2F]
          refine c_changes hL hC hu (by omega) t6 ?_
          refine brF (fun h => hz ((eI (b := 0) (by omega) (by decide)).mp h)) ?_
          simp (disch := omega) only [X_X10_runHooks_37, X_X10_runHooks_55, mI_c, mR_c, hL.1, hL.2.2, hC.1, lT, lF, tT, tF, eF, pF, zT, m1F, vT, cI, true_and, and_true, true_implies, false_implies, not_false_eq_true, not_true_eq_false, forall_eq, implies_true, xS.r13, hT2.1, o2F]
          refine a1 ρ4 _ ?_
          simp only [X_X10_runHooks_58, nI_1]
          exact hK
        · simp (disch := omega) only [X_X12_writeUnit_75_s, mI_m, mR_m, mJ_m, sI_m, sJ_m, hM.1, hM.2, hm.1, hm.2, lT, lF, tT, tF, eF, pF, zT, m1F, vT, cI, true_and, and_true, true_implies, false_implies, not_false_eq_true, not_true_eq_false, forall_eq, implies_true, omn, omi]
          refine m_changed hM hm (by omega) (by omega) c2 ew h16 ?_
          refine brF (fun h => hz2 (by have := (lI (b := 0) (by omega) (by decide)).mp h; omega)) ?_
          simp (disch := omega) only [mI_m, mR_m, mJ_m, sI_m, sJ_m, hM.1, hM.2, hm.1, hm.2, lT, lF, tT, tF, eF, pF, zT, m1F, vT, cI, true_and, and_true, true_implies, false_implies, not_false_eq_true, not_true_eq_false, forall_eq, implies_true, omi]
          refine a2 κ4 _ ?_
          simp only [X_X12_writeUnit_107]
          rw [nI_1, ← p1]
          exact hK
    · have pf := fpos_f (p := ldB st) l i hil (by rw [ek]; exact fun h => hs (of_decide_eq_true h))
      obtain ⟨κ3, ρ3, b1, b2, b3, b4, b5⟩ := ih (i + 1) (by omega) κ ρ hA ho hst oc om
      refine ⟨κ3, ρ3, fun ρ4 Q hQ => Lw.stp (fun K2 hK => ?_) (b1 ρ4 Q hQ), fun κ4 Q hQ => by rw [← pf]; exact b2 κ4 Q hQ, b3, b4, b5⟩
      simp (disch := omega) only [X_X10_runHooks_2_s, X_X10_runHooks_58, mI_c, mR_c, hL.1, hL.2.2, hC.1, lT, lF, tT, tF, eF, pF, zT, m1F, vT, cI, true_and, and_true, true_implies, false_implies, not_false_eq_true, not_true_eq_false, forall_eq, implies_true, ocn, oci, t1, hs, nI_1]
      exact hK
end HOOKS2
