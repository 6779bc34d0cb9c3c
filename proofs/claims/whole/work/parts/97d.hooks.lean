section HOOKS
variable {G : Lay} {nn sc n r0 : Nat} {mc rt hc K N us : Nat → Nat} {κ κ' ρ ρ' κ1 ρ1 : Mem} {u k : Nat}
/-- what hooks leave as it is -/
def hkC (u k a _j : Nat) : Prop := a ≠ 538 + 184 * u + 3 * k
def hkM (p a j : Nat) : Prop := ¬ (a = 1324 ∧ 16 * p ≤ j ∧ j < 16 * p + 16)
theorem j_hook1 (hG : Ly G) (hA : RelA nn sc n mc rt hc K N r0 us κ ρ) (hu : u < 4) (ho : mI ρ 1316 u = 1) (hk : k < us u) {cc c h : Nat} (ec : mI ρ 1322 (60 * u + k) = nI cc) (hcc : cc < n) (hc1 : c < n) (his : isa (par ρ) cc c = true) (hh : h < hc c) {on wh : Int32} (hw : on = 1 ∧ wh = 0 ∨ on = 0 ∧ wh = 1) :
    ∃ κ' ρ', (∀ ρ1 (Q : Mem → Prop) (K2 : Int32 × Mem → Prop), K2 (nI (h + 1), mg κ' ρ1) → X_X1_runHooks_2_s G Q (sc + 4 + 5 * c) (537 + 184 * u + 3 * k) on K2 (nI h, mg κ ρ1)) ∧ (∀ κ1 (Q : Mem → Prop) (K10 K39 : Int32 × Mem → Prop), K39 (nI (4 * c + (h + 1)), mg κ1 ρ') → X_X12_hooks_39_s G Q K10 1282 (nI (60 * u + k)) wh (nI cc) (nI c) K39 (nI (4 * c + h), mg κ1 ρ)) ∧ RelA nn sc n mc rt hc K N r0 us κ' ρ' ∧ Eqv (hkC u k) κ κ' ∧ Eqv (hkM (60 * u + k)) ρ ρ' := by
  have hL := hG.1
  have hM := hG.2.2.2
  obtain ⟨⟨hC, hm, hNu⟩, xT, xF, xS, xN, xK, xR, xU, xW, xD, xY, xZ⟩ := id hA
  have hT2 := hG.s xS.s2
  have hK2 := hC.ss xS.s2
  have hs2 := xS.s2
  have h12 := xS.le
  obtain ⟨o1, o2, o3, o4, o5⟩ := xU.op hu ho
  obtain ⟨t1, t2, t3, t4, t5, t6⟩ := o5 k hk
  obtain ⟨-, -, -, -, -, -, hh1, hh2, hh3⟩ := xS.cls hc1
  obtain ⟨hon, ⟨m, hm1, e1, e2, e3⟩, e4⟩ := xS.hok hc1 hh
  obtain ⟨i1, i2, -⟩ := mem_inh xS hm1 cc hcc his
  have h16 := xS.m16 hcc
  have n4 : (4 : Int32) = nI 4 := rfl
  have n16 : (16 : Int32) = nI 16 := rfl
  by_cases hit : mI κ (sc + 6 + 5 * c) h = on
  · have hit2 : mI ρ 1301 (4 * c + h) = wh := by
      rcases hon with ⟨a1, a2⟩ | ⟨a1, a2⟩ <;> rcases hw with ⟨b1, b2⟩ | ⟨b1, b2⟩
      · rw [a2, b2]
      · rw [a1, b1] at hit; exact absurd hit (by decide)
      · rw [a1, b1] at hit; exact absurd hit (by decide)
      · rw [a2, b2]
    refine ⟨sI κ (538 + 184 * u + 3 * k) m (mI ρ 1324 (16 * (60 * u + k) + m) + mI ρ 1303 (4 * c + h)), sI ρ 1324 (16 * (60 * u + k) + m) (mI ρ 1324 (16 * (60 * u + k) + m) + mI ρ 1303 (4 * c + h)), fun ρ1 Q K2 hK => ?_, fun κ1 Q K10 K39 hK => ?_, hA.val hu ho hk ec hcc i1 _ (fun e => ?_), Eqv.wI (fun h => h rfl) _, Eqv.wI (fun h => h ⟨rfl, by omega, by omega⟩) _⟩
    · simp (disch := omega) only [X_X1_runHooks_2_s, X_X1_runHooks_40, mI_c, mR_c, mJ_c, sI_c, sJ_c, sR_c, hL.1, hL.2.1, hL.2.2, hC.1, hC.2.1, hC.2.2.1, lT, lF, tT, tF, eF, pF, zT, m1F, vT, cI, true_and, and_true, true_implies, false_implies, not_false_eq_true, not_true_eq_false, forall_eq, implies_true, hT2.1, hT2.2.1, hK2.2.1, hh1, hit, e1, (t6 m (by omega)).1, e4, nI_1]
      exact hK
    · simp (disch := omega) only [X_X12_hooks_39_s, X_X12_hooks_94, n4, n16, pk_mul, nI_add, mI_m, mR_m, mJ_m, sI_m, sJ_m, hM.1, hM.2, hm.1, hm.2, lT, lF, tT, tF, eF, pF, zT, m1F, vT, cI, true_and, and_true, true_implies, false_implies, not_false_eq_true, not_true_eq_false, forall_eq, implies_true, hh2, hit2, e2, nI_1]
      exact hK
    · rw [i2, e3] at e
      exact absurd e (by decide)
  · have hit2 : ¬ mI ρ 1301 (4 * c + h) = wh := by
      rcases hon with ⟨a1, a2⟩ | ⟨a1, a2⟩ <;> rcases hw with ⟨b1, b2⟩ | ⟨b1, b2⟩
      · rw [a1, b1] at hit; exact absurd rfl hit
      · rw [a2, b2]; decide
      · rw [a2, b2]; decide
      · rw [a1, b1] at hit; exact absurd rfl hit
    refine ⟨κ, ρ, fun ρ1 Q K2 hK => ?_, fun κ1 Q K10 K39 hK => ?_, hA, Eqv.rf, Eqv.rf⟩
    · simp (disch := omega) only [X_X1_runHooks_2_s, X_X1_runHooks_40, mI_c, mR_c, mJ_c, sI_c, sJ_c, sR_c, hL.1, hL.2.1, hL.2.2, hC.1, hC.2.1, hC.2.2.1, lT, lF, tT, tF, eF, pF, zT, m1F, vT, cI, true_and, and_true, true_implies, false_implies, not_false_eq_true, not_true_eq_false, forall_eq, implies_true, hT2.1, hT2.2.1, hK2.2.1, hh1, hit, nI_1]
      exact hK
    · simp (disch := omega) only [X_X12_hooks_39_s, X_X12_hooks_94, n4, n16, pk_mul, nI_add, mI_m, mR_m, mJ_m, sI_m, sJ_m, hM.1, hM.2, hm.1, hm.2, lT, lF, tT, tF, eF, pF, zT, m1F, vT, cI, true_and, and_true, true_implies, false_implies, not_false_eq_true, not_true_eq_false, forall_eq, implies_true, hh2, hit2, nI_1]
      exact hK
theorem j_hooksIn (hG : Ly G) (hu : u < 4) (hk : k < us u) {cc c : Nat} (hcc : cc < n) (hc1 : c < n) {on wh : Int32} (hw : on = 1 ∧ wh = 0 ∨ on = 0 ∧ wh = 1) : ∀ d h, h + d = hc c → ∀ κ ρ, RelA nn sc n mc rt hc K N r0 us κ ρ → mI ρ 1316 u = 1 → mI ρ 1322 (60 * u + k) = nI cc → isa (par ρ) cc c = true →
    ∃ κ' ρ', (∀ ρ1 (Q : Mem → Prop), Q (mg κ' ρ1) → Lw (X_X1_runHooks_2_s G Q (sc + 4 + 5 * c) (537 + 184 * u + 3 * k) on) (nI h, mg κ ρ1)) ∧ (∀ κ1 (Q : Mem → Prop) (K10 : Int32 × Mem → Prop), K10 (nI (c + 1), mg κ1 ρ') → Lw (X_X12_hooks_39_s G Q K10 1282 (nI (60 * u + k)) wh (nI cc) (nI c)) (nI (4 * c + h), mg κ1 ρ)) ∧ RelA nn sc n mc rt hc K N r0 us κ' ρ' ∧ Eqv (hkC u k) κ κ' ∧ Eqv (hkM (60 * u + k)) ρ ρ' := by
  intro d
  induction d with
  | zero =>
    intro h hd κ ρ hA ho ec his
    have hL := hG.1
    have hM := hG.2.2.2
    obtain ⟨⟨hC, hm, hNu⟩, xT, xF, xS, xN, xK, xR, xU, xW, xD, xY, xZ⟩ := id hA
    have hT2 := hG.s xS.s2
    have hs2 := xS.s2
    have h12 := xS.le
    obtain ⟨-, -, -, -, -, -, hh1, hh2, hh3⟩ := xS.cls hc1
    have n4 : (4 : Int32) = nI 4 := rfl
    refine ⟨κ, ρ, fun ρ1 Q hQ => Lw.fin (fun K2 => ?_), fun κ1 Q K10 hK => Lw.fin (fun K39 => ?_), hA, Eqv.rf, Eqv.rf⟩
    · simp (disch := omega) only [X_X1_runHooks_2_s, mI_c, mR_c, mJ_c, sI_c, sJ_c, sR_c, hL.1, hL.2.1, hL.2.2, hC.1, hC.2.1, hC.2.2.1, lT, lF, tT, tF, eF, pF, zT, m1F, vT, cI, true_and, and_true, true_implies, false_implies, not_false_eq_true, not_true_eq_false, forall_eq, implies_true, hT2.2.1, hh1]
      exact hQ
    · simp (disch := omega) only [X_X12_hooks_39_s, X_X12_hooks_100, n4, pk_mul, nI_add, mI_m, mR_m, mJ_m, sI_m, sJ_m, hM.1, hM.2, hm.1, hm.2, lT, lF, tT, tF, eF, pF, zT, m1F, vT, cI, true_and, and_true, true_implies, false_implies, not_false_eq_true, not_true_eq_false, forall_eq, implies_true, hh2, nI_1]
      exact hK
  | succ d ih =>
    intro h hd κ ρ hA ho ec his
    obtain ⟨κ1, ρ1, a1, a2, a3, a4, a5⟩ := j_hook1 (h := h) hG hA hu ho hk ec hcc hc1 his (by omega) hw
    have ep : par ρ1 = par ρ := funext fun c => a5.I (by rintro ⟨h1, -⟩; exact absurd h1 (by decide))
    obtain ⟨κ2, ρ2, b1, b2, b3, b4, b5⟩ := ih (h + 1) (by omega) κ1 ρ1 a3 (by rw [a5.I (by rintro ⟨h1, -⟩; exact absurd h1 (by decide))]; exact ho) (by rw [a5.I (by rintro ⟨h1, -⟩; exact absurd h1 (by decide))]; exact ec) (by rw [ep]; exact his)
    exact ⟨κ2, ρ2, fun ρ3 Q hQ => Lw.stp (a1 ρ3 Q) (b1 ρ3 Q hQ), fun κ3 Q K10 hK => Lw.stp (a2 κ3 Q K10) (b2 κ3 Q K10 hK), b3, a4.tr b4, a5.tr b5⟩
theorem j_hooksOut (hG : Ly G) (hu : u < 4) (hk : k < us u) {cc : Nat} (hcc : cc < n) {on wh : Int32} (hw : on = 1 ∧ wh = 0 ∨ on = 0 ∧ wh = 1) : ∀ d c, c + d = n → ∀ κ ρ, RelA nn sc n mc rt hc K N r0 us κ ρ → mI ρ 1316 u = 1 → mI ρ 1322 (60 * u + k) = nI cc →
    ∃ κ' ρ', (∀ ρ1 (Q : Mem → Prop), Q (mg κ' ρ1) → Lw (X_X6_runHooks_2_s G Q sc (537 + 184 * u + 3 * k) on) (nI c, mg κ ρ1)) ∧ (∀ κ1 (Q : Mem → Prop), Q (mg κ1 ρ') → Lw (X_X12_hooks_10_s G Q 1282 (nI (60 * u + k)) wh (nI cc)) (nI c, mg κ1 ρ)) ∧ RelA nn sc n mc rt hc K N r0 us κ' ρ' ∧ Eqv (hkC u k) κ κ' ∧ Eqv (hkM (60 * u + k)) ρ ρ' := by
  intro d
  induction d with
  | zero =>
    intro c hd κ ρ hA ho ec
    have hL := hG.1
    have hM := hG.2.2.2
    obtain ⟨⟨hC, hm, hNu⟩, xT, xF, xS, xN, xK, xR, xU, xW, xD, xY, xZ⟩ := id hA
    have hT2 := hG.s xS.s2
    have hs2 := xS.s2
    have h12 := xS.le
    refine ⟨κ, ρ, fun ρ1 Q hQ => Lw.fin (fun K2 => ?_), fun κ1 Q hQ => Lw.fin (fun K39 => ?_), hA, Eqv.rf, Eqv.rf⟩
    · simp (disch := omega) only [X_X6_runHooks_2_s, mI_c, mR_c, mJ_c, sI_c, sJ_c, sR_c, hL.1, hL.2.1, hL.2.2, hC.1, hC.2.1, hC.2.2.1, lT, lF, tT, tF, eF, pF, zT, m1F, vT, cI, true_and, and_true, true_implies, false_implies, not_false_eq_true, not_true_eq_false, forall_eq, implies_true, hT2.1, xS.nC]
      exact hQ
    · simp (disch := omega) only [X_X12_hooks_10_s, mI_m, mR_m, mJ_m, sI_m, sJ_m, hM.1, hM.2, hm.1, hm.2, lT, lF, tT, tF, eF, pF, zT, m1F, vT, cI, true_and, and_true, true_implies, false_implies, not_false_eq_true, not_true_eq_false, forall_eq, implies_true, xS.nM]
      exact hQ
  | succ d ih =>
    intro c hd κ ρ hA ho ec
    have hL := hG.1
    have hM := hG.2.2.2
    obtain ⟨⟨hC, hm, hNu⟩, xT, xF, xS, xN, xK, xR, xU, xW, xD, xY, xZ⟩ := id hA
    have hT2 := hG.s xS.s2
    have hK2 := hC.ss xS.s2
    have hs2 := xS.s2
    have h12 := xS.le
    obtain ⟨o1, o2, o3, o4, o5⟩ := xU.op hu ho
    have t4 := (o5 k hk).2.2.2.1.trans ec
    have n4 : (4 : Int32) = nI 4 := rfl
    by_cases his : isa (par ρ) cc c = true
    · obtain ⟨κ1, ρ1, a1, a2, a3, a4, a5⟩ := j_hooksIn (c := c) hG hu hk hcc (by omega) hw (hc c) 0 (by omega) κ ρ hA ho ec his
      obtain ⟨κ2, ρ2, b1, b2, b3, b4, b5⟩ := ih (c + 1) (by omega) κ1 ρ1 a3 (by rw [a5.I (by rintro ⟨h1, -⟩; exact absurd h1 (by decide))]; exact ho) (by rw [a5.I (by rintro ⟨h1, -⟩; exact absurd h1 (by decide))]; exact ec)
      refine ⟨κ2, ρ2, fun ρ3 Q hQ => Lw.stp (fun K2 hK => ?_) (b1 ρ3 Q hQ), fun κ3 Q hQ => Lw.stp (fun K10 hK => ?_) (b2 κ3 Q hQ), b3, a4.tr b4, a5.tr b5⟩
      · simp (disch := omega) only [X_X6_runHooks_2_s, mI_c, mR_c, mJ_c, sI_c, sJ_c, sR_c, hL.1, hL.2.1, hL.2.2, hC.1, hC.2.1, hC.2.2.1, lT, lF, tT, tF, eF, pF, zT, m1F, vT, cI, true_and, and_true, true_implies, false_implies, not_false_eq_true, not_true_eq_false, forall_eq, implies_true, hT2.1, xS.nC, t4]
        refine c_isOf' hG hC xS hcc (by omega) (fun _ => br1 ?_) (fun e => absurd his (by rw [e]; decide))
        simp (disch := omega) only [mI_c, mR_c, mJ_c, sI_c, sJ_c, sR_c, hL.1, hL.2.1, hL.2.2, hC.1, hC.2.1, hC.2.2.1, lT, lF, tT, tF, eF, pF, zT, m1F, vT, cI, true_and, and_true, true_implies, false_implies, not_false_eq_true, not_true_eq_false, forall_eq, implies_true, hT2.1, hT2.2.1, hK2.1, hK2.2.1, X_X1_runHooks, X_X1_runHooks_0, X_X1_runHooks_2, X_X6_runHooks_33, nI_1]
        exact a1 ρ3 _ hK
      · simp (disch := omega) only [X_X12_hooks_10_s, mI_m, mR_m, mJ_m, sI_m, sJ_m, hM.1, hM.2, hm.1, hm.2, lT, lF, tT, tF, eF, pF, zT, m1F, vT, cI, true_and, and_true, true_implies, false_implies, not_false_eq_true, not_true_eq_false, forall_eq, implies_true, xS.nM]
        refine m_isA0 hM hm xS.par h12 hcc (by omega) (fun _ => br1 ?_) (fun e => absurd his (by rw [e]; decide))
        simp (disch := omega) only [X_X12_hooks_39, n4, pk_mul]
        exact a2 κ3 Q K10 hK
    · have his' : isa (par ρ) cc c = false := by
        cases e : isa (par ρ) cc c
        · rfl
        · exact absurd e his
      obtain ⟨κ2, ρ2, b1, b2, b3, b4, b5⟩ := ih (c + 1) (by omega) κ ρ hA ho ec
      refine ⟨κ2, ρ2, fun ρ3 Q hQ => Lw.stp (fun K2 hK => ?_) (b1 ρ3 Q hQ), fun κ3 Q hQ => Lw.stp (fun K10 hK => ?_) (b2 κ3 Q hQ), b3, b4, b5⟩
      · simp (disch := omega) only [X_X6_runHooks_2_s, mI_c, mR_c, mJ_c, sI_c, sJ_c, sR_c, hL.1, hL.2.1, hL.2.2, hC.1, hC.2.1, hC.2.2.1, lT, lF, tT, tF, eF, pF, zT, m1F, vT, cI, true_and, and_true, true_implies, false_implies, not_false_eq_true, not_true_eq_false, forall_eq, implies_true, hT2.1, xS.nC, t4]
        refine c_isOf' hG hC xS hcc (by omega) (fun e => absurd e his) (fun _ => br0 ?_)
        simp (disch := omega) only [X_X6_runHooks_33, nI_1]
        exact hK
      · simp (disch := omega) only [X_X12_hooks_10_s, mI_m, mR_m, mJ_m, sI_m, sJ_m, hM.1, hM.2, hm.1, hm.2, lT, lF, tT, tF, eF, pF, zT, m1F, vT, cI, true_and, and_true, true_implies, false_implies, not_false_eq_true, not_true_eq_false, forall_eq, implies_true, xS.nM]
        refine m_isA0 hM hm xS.par h12 hcc (by omega) (fun e => absurd e his) (fun _ => br0 ?_)
        simp (disch := omega) only [X_X12_hooks_100, nI_1]
        exact hK
theorem j_hooks (hG : Ly G) (hA : RelA nn sc n mc rt hc K N r0 us κ ρ) (hu : u < 4) (ho : mI ρ 1316 u = 1) (hk : k < us u) {cc : Nat} (ec : mI ρ 1322 (60 * u + k) = nI cc) (hcc : cc < n) {on wh : Int32} (hw : on = 1 ∧ wh = 0 ∨ on = 0 ∧ wh = 1) :
    ∃ κ' ρ', RunC0 (fun Q σ => X_X6_runHooks G Q sc (537 + 184 * u + 3 * k) on σ) κ κ' ∧ RunM0 (fun Q σ => X_X12_hooks G Q 1282 (nI (60 * u + k)) wh σ) ρ ρ' ∧ RelA nn sc n mc rt hc K N r0 us κ' ρ' ∧ Eqv (hkC u k) κ κ' ∧ Eqv (hkM (60 * u + k)) ρ ρ' := by
  obtain ⟨κ', ρ', a1, a2, a3, a4, a5⟩ := j_hooksOut hG hu hk hcc hw n 0 (by omega) κ ρ hA ho ec
  have hM := hG.2.2.2
  have hm := hA.1.2.1
  have h60 := (hA.th hu ho hk).1
  refine ⟨κ', ρ', fun ρ1 Q hQ => ?_, fun κ1 Q hQ => ?_, a3, a4, a5⟩
  · simp only [X_X6_runHooks, X_X6_runHooks_0, X_X6_runHooks_2]
    exact a1 ρ1 Q hQ
  · simp (disch := omega) only [X_X12_hooks, X_X12_hooks_0, X_X12_hooks_10, mI_m, mR_m, mJ_m, sI_m, sJ_m, hM.1, hM.2, hm.1, hm.2, lT, lF, tT, tF, eF, pF, zT, m1F, vT, cI, true_and, and_true, true_implies, false_implies, not_false_eq_true, not_true_eq_false, forall_eq, implies_true, ec]
    exact a2 κ1 Q hQ
end HOOKS
