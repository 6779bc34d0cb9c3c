section LIVE
variable {G : Lay} {nn sc n r0 : Nat} {mc rt hc K N us : Nat → Nat} {κ κ' ρ ρ' κ1 ρ1 : Mem} {u k : Nat}
/-- no object has this number -/
def noT (us : Nat → Nat) (ρ : Mem) (o : Int32) : Prop := o < 0 ∨ ∃ v, v < 2147483648 ∧ o = nI v ∧ (4 ≤ v / 100 ∨ mI ρ 1316 (v / 100) = 0 ∨ v / 100 < 4 ∧ mI ρ 1316 (v / 100) = 1 ∧ us (v / 100) ≤ v % 100)
theorem thCase (hU : RelU us κ ρ) (o : Int32) : (∃ u k, u < 4 ∧ mI ρ 1316 u = 1 ∧ k < us u ∧ us u ≤ 60 ∧ o = nI (100 * u + k)) ∨ noT us ρ o := by
  rcases iI o with h | ⟨v, hv, rfl⟩
  · exact Or.inr (Or.inl h)
  · by_cases h4 : v / 100 < 4
    · rcases (hU _ h4).2 with e | ⟨e, e2⟩
      · exact Or.inr (Or.inr ⟨v, hv, rfl, Or.inr (Or.inl e)⟩)
      · by_cases hk : v % 100 < us (v / 100)
        · exact Or.inl ⟨v / 100, v % 100, h4, e, hk, e2.1, by rw [Nat.div_add_mod]⟩
        · exact Or.inr (Or.inr ⟨v, hv, rfl, Or.inr (Or.inr ⟨h4, e, by omega⟩)⟩)
    · exact Or.inr (Or.inr ⟨v, hv, rfl, Or.inl (by omega)⟩)
theorem c_thing1 (hL : LyC G) (hC : StC κ) (hU : RelU us κ ρ) {Q : Nat → Mem → Prop} (hu : u < 4) (ho : mI ρ 1316 u = 1) (hk : k < us u) (q : Q (537 + 184 * u + 3 * k) (mg κ ρ1)) : X_X11_thingNumbered G Q 1 (nI (100 * u + k)) (mg κ ρ1) := by
  obtain ⟨o1, o2, -⟩ := hU.op hu ho
  have e1 : (100 * u + k) / 100 = u := by omega
  have e2 : 100 * u + k - u * 100 = k := by omega
  simp (disch := omega) only [X_X11_thingNumbered_31, X_X11_thingNumbered_0, X_X11_thingNumbered, lT, lF, tT, tF, eF, pF, zT, m1F, vT, cI, true_and, and_true, true_implies, false_implies, not_false_eq_true, not_true_eq_false, forall_eq, implies_true, nls, dI, pk_mul, pk_sub, e1, e2, hL.1]
  refine c_openUnit1 hL hC hU hu ho (brF (by omega) ?_)
  simp (disch := omega) only [X_X9_thingAt_22, X_X9_thingAt_12, X_X9_thingAt_0, X_X9_thingAt, lT, lF, tT, tF, eF, pF, zT, m1F, vT, cI, true_and, and_true, true_implies, false_implies, not_false_eq_true, not_true_eq_false, forall_eq, implies_true, mI_c, mR_c, mJ_c, sI_c, sJ_c, sR_c, hL.1, hL.2.1, hL.2.2, hC.1, hC.2.1, hC.2.2.1, o2]
  exact q
theorem c_thing0 (hL : LyC G) (hC : StC κ) (hU : RelU us κ ρ) {Q : Nat → Mem → Prop} {o : Int32} (h : noT us ρ o) (q : Q 0 (mg κ ρ1)) : X_X11_thingNumbered G Q 1 o (mg κ ρ1) := by
  rcases h with h | ⟨v, hv, rfl, h⟩
  · simp (disch := omega) only [X_X11_thingNumbered_31, X_X11_thingNumbered_0, X_X11_thingNumbered]
    exact brF (fun e => Int32.not_lt.mpr e h) q
  · simp (disch := omega) only [X_X11_thingNumbered_31, X_X11_thingNumbered_0, X_X11_thingNumbered, lT, lF, tT, tF, eF, pF, zT, m1F, vT, cI, true_and, and_true, true_implies, false_implies, not_false_eq_true, not_true_eq_false, forall_eq, implies_true, nls, dI, pk_mul, pk_sub, hL.1]
    rcases h with h | h | ⟨h1, h2, h3⟩
    · exact c_openUnit0 hL hC hU (Or.inr ⟨v / 100, by omega, rfl, Or.inl h⟩) (brT rfl q)
    · exact c_openUnit0 hL hC hU (Or.inr ⟨v / 100, by omega, rfl, Or.inr h⟩) (brT rfl q)
    · obtain ⟨o1, o2, -⟩ := hU.op h1 h2
      refine c_openUnit1 hL hC hU h1 h2 (brF (by omega) ?_)
      simp (disch := omega) only [X_X9_thingAt_22, X_X9_thingAt_12, X_X9_thingAt_0, X_X9_thingAt, lT, lF, tT, tF, eF, pF, zT, m1F, vT, cI, true_and, and_true, true_implies, false_implies, not_false_eq_true, not_true_eq_false, forall_eq, implies_true, mI_c, mR_c, mJ_c, sI_c, sJ_c, sR_c, hL.1, hL.2.1, hL.2.2, hC.1, hC.2.1, hC.2.2.1, o2]
      exact q
theorem m_place1 (hM : LyM G) (hm : StM ρ) (hU : RelU us κ ρ) {Q : Int32 → Mem → Prop} (hu : u < 4) (ho : mI ρ 1316 u = 1) (hk : k < us u) (q : Q (nI (60 * u + k)) (mg κ1 ρ)) : X_X12_placeOf G Q 1282 (nI (100 * u + k)) (mg κ1 ρ) := by
  obtain ⟨o1, -, o3, -⟩ := hU.op hu ho
  have e1 : (100 * u + k) / 100 = u := by omega
  have e2 : 100 * u + k - u * 100 = k := by omega
  simp (disch := omega) only [X_X12_placeOf_42, X_X12_placeOf_41, X_X12_placeOf_0, X_X12_placeOf, lT, lF, tT, tF, eF, pF, zT, m1F, vT, cI, true_and, and_true, true_implies, false_implies, not_false_eq_true, not_true_eq_false, forall_eq, implies_true, nls, dI, pk_mul, pk_sub, e1, e2, hM.1]
  refine m_isUnit1 hM hm hu ho (br1 ?_)
  simp (disch := omega) only [mI_m, mR_m, mJ_m, sI_m, sJ_m, hM.1, hM.2, hm.1, hm.2, lT, lF, tT, tF, eF, pF, zT, m1F, vT, cI, true_and, and_true, true_implies, false_implies, not_false_eq_true, not_true_eq_false, forall_eq, implies_true, o3, nI_add]
  exact q
theorem m_place0 (hM : LyM G) (hm : StM ρ) (hU : RelU us κ ρ) {Q : Int32 → Mem → Prop} {o : Int32} (h : noT us ρ o) (q : Q (-1) (mg κ1 ρ)) : X_X12_placeOf G Q 1282 o (mg κ1 ρ) := by
  rcases h with h | ⟨v, hv, rfl, h⟩
  · simp (disch := omega) only [X_X12_placeOf_42, X_X12_placeOf_41, X_X12_placeOf_0, X_X12_placeOf]
    exact brT h q
  · simp (disch := omega) only [X_X12_placeOf_42, X_X12_placeOf_41, X_X12_placeOf_0, X_X12_placeOf, lT, lF, tT, tF, eF, pF, zT, m1F, vT, cI, true_and, and_true, true_implies, false_implies, not_false_eq_true, not_true_eq_false, forall_eq, implies_true, nls, dI, pk_mul, pk_sub, hM.1]
    rcases h with h | h | ⟨h1, h2, h3⟩
    · exact m_isUnit0 hM hm (Or.inr ⟨v / 100, by omega, rfl, Or.inl h⟩) (br0 q)
    · exact m_isUnit0 hM hm (Or.inr ⟨v / 100, by omega, rfl, Or.inr h⟩) (br0 q)
    · obtain ⟨o1, -, o3, -⟩ := hU.op h1 h2
      refine m_isUnit1 hM hm h1 h2 (br1 ?_)
      simp (disch := omega) only [mI_m, mR_m, mJ_m, sI_m, sJ_m, hM.1, hM.2, hm.1, hm.2, lT, lF, tT, tF, eF, pF, zT, m1F, vT, cI, true_and, and_true, true_implies, false_implies, not_false_eq_true, not_true_eq_false, forall_eq, implies_true, o3]
      exact q
def LiveS (ρ : Mem) (p : Nat) : Prop := mI ρ 1319 p = 1 ∨ mI ρ 1319 p = 2
theorem c_isLive1 (hL : LyC G) {Q : Int32 → Mem → Prop} (hu : u < 4) (hk : k < 60) (h : mI κ (537 + 184 * u + 3 * k) 1 = 1 ∨ mI κ (537 + 184 * u + 3 * k) 1 = 2) (q : Q 1 (mg κ ρ1)) : X_X7_isLive G Q (537 + 184 * u + 3 * k) (mg κ ρ1) := by
  simp (disch := omega) only [X_X7_isLive_21, X_X7_isLive_16, X_X7_isLive_0, X_X7_isLive, lT, lF, tT, tF, eF, pF, zT, m1F, vT, cI, true_and, and_true, true_implies, false_implies, not_false_eq_true, not_true_eq_false, forall_eq, implies_true, mI_c, hL.2.2, bzT1, bzT0]
  rcases h with e | e
  · rw [e]; exact brF (by decide) (brT rfl q)
  · rw [e]; exact brT rfl q
theorem c_isLive0 (hL : LyC G) {Q : Int32 → Mem → Prop} (hu : u < 4) (hk : k < 60) (h : ¬ (mI κ (537 + 184 * u + 3 * k) 1 = 1 ∨ mI κ (537 + 184 * u + 3 * k) 1 = 2)) (q : Q 0 (mg κ ρ1)) : X_X7_isLive G Q (537 + 184 * u + 3 * k) (mg κ ρ1) := by
  simp (disch := omega) only [X_X7_isLive_21, X_X7_isLive_16, X_X7_isLive_0, X_X7_isLive, lT, lF, tT, tF, eF, pF, zT, m1F, vT, cI, true_and, and_true, true_implies, false_implies, not_false_eq_true, not_true_eq_false, forall_eq, implies_true, mI_c, hL.2.2, bzT1, bzT0]
  exact brF (fun e => h (Or.inr e)) (brF (fun e => h (Or.inl e)) q)
theorem m_isLive1 (hM : LyM G) (hm : StM ρ) {Q : Int32 → Mem → Prop} {p : Nat} (hp : p < 240) (h : LiveS ρ p) (q : Q 1 (mg κ1 ρ)) : X_X12_isLive G Q 1282 (nI p) (mg κ1 ρ) := by
  simp (disch := omega) only [X_X12_isLive_25, X_X12_isLive_20, X_X12_isLive_0, X_X12_isLive, lT, lF, tT, tF, eF, pF, zT, m1F, vT, cI, true_and, and_true, true_implies, false_implies, not_false_eq_true, not_true_eq_false, forall_eq, implies_true, mI_m, mR_m, mJ_m, sI_m, sJ_m, hM.1, hM.2, hm.1, hm.2, bzT1, bzT0]
  rcases h with e | e
  · rw [e]; exact brT rfl q
  · rw [e]; exact brF (by decide) (brT rfl q)
theorem m_isLive0 (hM : LyM G) (hm : StM ρ) {Q : Int32 → Mem → Prop} {p : Nat} (hp : p < 240) (h : ¬ LiveS ρ p) (q : Q 0 (mg κ1 ρ)) : X_X12_isLive G Q 1282 (nI p) (mg κ1 ρ) := by
  simp (disch := omega) only [X_X12_isLive_25, X_X12_isLive_20, X_X12_isLive_0, X_X12_isLive, lT, lF, tT, tF, eF, pF, zT, m1F, vT, cI, true_and, and_true, true_implies, false_implies, not_false_eq_true, not_true_eq_false, forall_eq, implies_true, mI_m, mR_m, mJ_m, sI_m, sJ_m, hM.1, hM.2, hm.1, hm.2, bzT1, bzT0]
  exact brF (fun e => h (Or.inl e)) (brF (fun e => h (Or.inr e)) q)
theorem RelA.th (hA : RelA nn sc n mc rt hc K N r0 us κ ρ) (hu : u < 4) (ho : mI ρ 1316 u = 1) (hk : k < us u) : us u ≤ 60 ∧ ThR u k κ ρ ∧ ThW n r0 mc rt K ρ (60 * u + k) := ⟨(hA.2.2.2.2.2.2.2.1.op hu ho).1, (hA.2.2.2.2.2.2.2.1.op hu ho).2.2.2.2 k hk, hA.2.2.2.2.2.2.2.2.2.2.2.1 u hu ho k hk⟩
/-- what a live object is -/
theorem RelA.liv (hA : RelA nn sc n mc rt hc K N r0 us κ ρ) (hu : u < 4) (ho : mI ρ 1316 u = 1) (hk : k < us u) (hl : LiveS ρ (60 * u + k)) : ∃ f, f < 12 ∧ mI ρ 1320 (60 * u + k) = nI f ∧ LivW n mc rt K ρ (60 * u + k) f := by
  obtain ⟨-, -, s, f, x, y1, y2, y3, y4, y5, y6, y7, y8, y9, y10⟩ := hA.th hu ho hk
  refine ⟨f, y3, y4, ?_⟩
  rcases hl with e | e
  · have : s = 1 := (eI (b := 1) (by omega) (by decide)).mp (y2.symm.trans e)
    exact y9 (by omega) (by omega)
  · have : s = 2 := (eI (b := 2) (by omega) (by decide)).mp (y2.symm.trans e)
    exact y9 (by omega) (by omega)
/-- the object of a number, loaded: a live one or none -/
theorem j_live (hG : Ly G) (hA : RelA nn sc n mc rt hc K N r0 us κ ρ) (o : Int32) : ∃ κ' ρ', RelA nn sc n mc rt hc K N r0 us κ' ρ' ∧ ((∃ u k, u < 4 ∧ k < us u ∧ us u ≤ 60 ∧ mI ρ' 1316 u = 1 ∧ o = nI (100 * u + k) ∧ LiveS ρ' (60 * u + k) ∧ RunC (fun Q σ => X_X11_usableThing G Q 1 o σ) κ (537 + 184 * u + 3 * k) κ' ∧ RunM (fun Q σ => X_X12_liveOf G Q 1282 o σ) ρ (nI (60 * u + k)) ρ' ∧ Eqv (ldM u k) ρ ρ') ∨ (RunC (fun Q σ => X_X11_usableThing G Q 1 o σ) κ 0 κ' ∧ RunM (fun Q σ => X_X12_liveOf G Q 1282 o σ) ρ (-1) ρ')) := by
  have hL := hG.1
  have hM := hG.2.2.2
  obtain ⟨⟨hC, hm, hNu⟩, xT, xF, xS, xN, xK, xR, xU, xW, xD, xY, xZ⟩ := id hA
  rcases thCase xU o with ⟨u, k, hu, ho, hk, h60, rfl⟩ | h
  · obtain ⟨κ', ρ', c0, d0, hA', s0, c9, d9, -⟩ := j_load hG hA hu ho hk
    have ho' : mI ρ' 1316 u = 1 := by rw [d9.I (by rintro ((h | h) | h) <;> omega)]; exact ho
    have e1 : (100 * u + k) / 100 = u := by omega
    have tr := (hA'.th hu ho' hk).2.1.1
    have hm' := hA'.1.2.1
    have hC' := hA'.1.1
    refine ⟨κ', ρ', hA', ?_⟩
    by_cases hl : LiveS ρ' (60 * u + k)
    · refine Or.inl ⟨u, k, hu, hk, h60, ho', rfl, hl, fun ρ1 Q hQ => ?_, fun κ1 Q hQ => ?_, d9⟩
      · simp (disch := omega) only [X_X11_usableThing_37, X_X11_usableThing_0, X_X11_usableThing, lT, lF, tT, tF, eF, pF, zT, m1F, vT, cI, true_and, and_true, true_implies, false_implies, not_false_eq_true, not_true_eq_false, forall_eq, implies_true, nls, dI, e1, hL.1]
        refine c_thing1 hL hC xU hu ho hk (brF (by omega) ?_)
        simp (disch := omega) only [mI_c, mR_c, mJ_c, sI_c, sJ_c, sR_c, hL.1, hL.2.1, hL.2.2, hC.1, hC.2.1, hC.2.2.1, lT, lF, tT, tF, eF, pF, zT, m1F, vT, cI, true_and, and_true, true_implies, false_implies, not_false_eq_true, not_true_eq_false, forall_eq, implies_true]
        refine c0 _ _ (c_isLive1 hL hu (by omega) (by rw [tr]; exact hl) (br1 hQ))
      · simp (disch := omega) only [X_X12_liveOf_30, X_X12_liveOf_0, X_X12_liveOf, lT, lF, tT, tF, eF, pF, zT, m1F, vT, cI, true_and, and_true, true_implies, false_implies, not_false_eq_true, not_true_eq_false, forall_eq, implies_true, hM.1]
        exact m_place1 hM hm xU hu ho hk (brT (Int32.not_lt.mp (pI (by omega))) (d0 _ _ (m_isLive1 hM hm' (by omega) hl (br1 hQ))))
    · refine Or.inr ⟨fun ρ1 Q hQ => ?_, fun κ1 Q hQ => ?_⟩
      · simp (disch := omega) only [X_X11_usableThing_37, X_X11_usableThing_0, X_X11_usableThing, lT, lF, tT, tF, eF, pF, zT, m1F, vT, cI, true_and, and_true, true_implies, false_implies, not_false_eq_true, not_true_eq_false, forall_eq, implies_true, nls, dI, e1, hL.1]
        refine c_thing1 hL hC xU hu ho hk (brF (by omega) ?_)
        simp (disch := omega) only [mI_c, mR_c, mJ_c, sI_c, sJ_c, sR_c, hL.1, hL.2.1, hL.2.2, hC.1, hC.2.1, hC.2.2.1, lT, lF, tT, tF, eF, pF, zT, m1F, vT, cI, true_and, and_true, true_implies, false_implies, not_false_eq_true, not_true_eq_false, forall_eq, implies_true]
        refine c0 _ _ (c_isLive0 hL hu (by omega) (by rw [tr]; exact hl) (br0 hQ))
      · simp (disch := omega) only [X_X12_liveOf_30, X_X12_liveOf_0, X_X12_liveOf, lT, lF, tT, tF, eF, pF, zT, m1F, vT, cI, true_and, and_true, true_implies, false_implies, not_false_eq_true, not_true_eq_false, forall_eq, implies_true, hM.1]
        exact m_place1 hM hm xU hu ho hk (brT (Int32.not_lt.mp (pI (by omega))) (d0 _ _ (m_isLive0 hM hm' (by omega) hl (br0 hQ))))
  · refine ⟨κ, ρ, hA, Or.inr ⟨fun ρ1 Q hQ => ?_, fun κ1 Q hQ => ?_⟩⟩
    · simp (disch := omega) only [X_X11_usableThing_37, X_X11_usableThing_0, X_X11_usableThing, lT, lF, tT, tF, eF, pF, zT, m1F, vT, cI, true_and, and_true, true_implies, false_implies, not_false_eq_true, not_true_eq_false, forall_eq, implies_true, hL.1]
      exact c_thing0 hL hC xU h (brT rfl hQ)
    · simp (disch := omega) only [X_X12_liveOf_30, X_X12_liveOf_0, X_X12_liveOf, lT, lF, tT, tF, eF, pF, zT, m1F, vT, cI, true_and, and_true, true_implies, false_implies, not_false_eq_true, not_true_eq_false, forall_eq, implies_true, hM.1]
      exact m_place0 hM hm xU h (brF (by decide) hQ)
theorem j_object (hG : Ly G) (h : Rel nn κ ρ) (o y : Int32) : Jt nn (fun Q σ => X_X11_object G Q 1 o y σ) (fun Q σ => X_X12_object G Q 1282 o y σ) κ ρ := by
  have h0 := h
  obtain ⟨sc, n, mc, rt, hc, K, N, r0, us, hA⟩ := h
  have hL := hG.1
  have hM := hG.2.2.2
  obtain ⟨⟨hC, hm, hNu⟩, xT, xF, xS, xN, xK, xR, xU, xW, xD, xY, xZ⟩ := id hA
  rcases thCase xU o with ⟨u, k, hu, ho, hk, h60, rfl⟩ | h
  · obtain ⟨-, ⟨t1, -, t3, -⟩, -⟩ := hA.th hu ho hk
    have e1 : (100 * u + k) / 100 = u := by omega
    by_cases y0 : y < 0 ∨ ¬ y ≤ 3
    · refine ⟨-1, κ, ρ, fun ρ1 Q hQ => ?_, fun κ1 Q hQ => ?_, h0.up⟩
      · simp (disch := omega) only [X_X11_object_19, X_X11_object_79, X_X11_object_0, X_X11_object, true_and, hL.1]
        refine c_thing1 hL hC xU hu ho hk (brF (by omega) ?_)
        rcases y0 with y0 | y0
        · exact brT y0 hQ
        · exact ⟨fun _ => hQ, fun _ => brF y0 hQ⟩
      · simp (disch := omega) only [X_X12_object_19, X_X12_object_95, X_X12_object_0, X_X12_object, true_and, hM.1]
        refine m_place1 hM hm xU hu ho hk (brF (pI (by omega)) ?_)
        rcases y0 with y0 | y0
        · exact brT y0 hQ
        · exact ⟨fun _ => hQ, fun _ => brF y0 hQ⟩
    · have y1 : ¬ y < 0 := fun h => y0 (Or.inl h)
      have y2 : y ≤ 3 := Classical.byContradiction fun h => y0 (Or.inr h)
      by_cases yz : y = 0
      · subst yz
        refine ⟨mI ρ 1319 (60 * u + k), κ, ρ, fun ρ1 Q hQ => ?_, fun κ1 Q hQ => ?_, h0.up⟩
        · simp (disch := omega) only [X_X11_object_19, X_X11_object_79, X_X11_object_0, X_X11_object, true_and, hL.1]
          refine c_thing1 hL hC xU hu ho hk (brF (by omega) (brF y1 (brT y2 (brT (by trivial) ?_))))
          simp (disch := omega) only [mI_c, mR_c, mJ_c, sI_c, sJ_c, sR_c, hL.1, hL.2.1, hL.2.2, hC.1, hC.2.1, hC.2.2.1, lT, lF, tT, tF, eF, pF, zT, m1F, vT, cI, true_and, and_true, true_implies, false_implies, not_false_eq_true, not_true_eq_false, forall_eq, implies_true, t1]
          exact hQ
        · simp (disch := omega) only [X_X12_object_19, X_X12_object_95, X_X12_object_0, X_X12_object, true_and, hM.1]
          refine m_place1 hM hm xU hu ho hk (brF (pI (by omega)) (brF y1 (brT y2 (brT (by trivial) ?_))))
          simp (disch := omega) only [mI_m, mR_m, mJ_m, sI_m, sJ_m, hM.1, hM.2, hm.1, hm.2, lT, lF, tT, tF, eF, pF, zT, m1F, vT, cI, true_and, and_true, true_implies, false_implies, not_false_eq_true, not_true_eq_false, forall_eq, implies_true]
          exact hQ
      · by_cases yo : y = 1
        · subst yo
          refine ⟨mI ρ 1321 (60 * u + k), κ, ρ, fun ρ1 Q hQ => ?_, fun κ1 Q hQ => ?_, h0.up⟩
          · simp (disch := omega) only [X_X11_object_19, X_X11_object_79, X_X11_object_0, X_X11_object, true_and, hL.1]
            refine c_thing1 hL hC xU hu ho hk (brF (by omega) (brF y1 (brT y2 (brF yz (brT (by trivial) ?_)))))
            simp (disch := omega) only [mI_c, mR_c, mJ_c, sI_c, sJ_c, sR_c, hL.1, hL.2.1, hL.2.2, hC.1, hC.2.1, hC.2.2.1, lT, lF, tT, tF, eF, pF, zT, m1F, vT, cI, true_and, and_true, true_implies, false_implies, not_false_eq_true, not_true_eq_false, forall_eq, implies_true, t3]
            exact hQ
          · simp (disch := omega) only [X_X12_object_19, X_X12_object_95, X_X12_object_0, X_X12_object, true_and, hM.1]
            refine m_place1 hM hm xU hu ho hk (brF (pI (by omega)) (brF y1 (brT y2 (brF yz (brT (by trivial) ?_)))))
            simp (disch := omega) only [mI_m, mR_m, mJ_m, sI_m, sJ_m, hM.1, hM.2, hm.1, hm.2, lT, lF, tT, tF, eF, pF, zT, m1F, vT, cI, true_and, and_true, true_implies, false_implies, not_false_eq_true, not_true_eq_false, forall_eq, implies_true]
            exact hQ
        · obtain ⟨κ', ρ', c0, d0, hA', s0, c9, d9, -⟩ := j_load hG hA hu ho hk
          have ho' : mI ρ' 1316 u = 1 := by rw [d9.I (by rintro ((h | h) | h) <;> omega)]; exact ho
          obtain ⟨-, ⟨t1', -, t3', t4', t5', -⟩, s, f, x, z1, z2, z3, z4, z5, z6, z7, z8, z9, z10⟩ := hA'.th hu ho' hk
          have hm' := hA'.1.2.1
          have hC' := hA'.1.1
          have hR' : Rel (nn + 1) κ' ρ' := Rel.up ⟨sc, n, mc, rt, hc, K, N, r0, us, hA'⟩
          by_cases g4 : mI ρ' 1319 (60 * u + k) = 4
          · refine ⟨-1, κ', ρ', fun ρ1 Q hQ => ?_, fun κ1 Q hQ => ?_, hR'⟩
            · simp (disch := omega) only [X_X11_object_19, X_X11_object_79, X_X11_object_0, X_X11_object, true_and, hL.1]
              refine c_thing1 hL hC xU hu ho hk (brF (by omega) (brF y1 (brT y2 (brF yz (brF yo ?_)))))
              simp (disch := omega) only [mI_c, mR_c, mJ_c, sI_c, sJ_c, sR_c, hL.1, hL.2.1, hL.2.2, hC.1, hC.2.1, hC.2.2.1, lT, lF, tT, tF, eF, pF, zT, m1F, vT, cI, true_and, and_true, true_implies, false_implies, not_false_eq_true, not_true_eq_false, forall_eq, implies_true, dI, e1, show (100 : Int32) = nI 100 from rfl]
              refine c0 _ _ ?_
              simp (disch := omega) only [mI_c, t1', g4]
              exact brT (by trivial) hQ
            · simp (disch := omega) only [X_X12_object_19, X_X12_object_95, X_X12_object_0, X_X12_object, true_and, hM.1]
              refine m_place1 hM hm xU hu ho hk (brF (pI (by omega)) (brF y1 (brT y2 (brF yz (brF yo (d0 _ _ ?_))))))
              simp (disch := omega) only [mI_m, mR_m, hM.2, hm'.1, hm'.2, lT, lF, tT, tF, eF, pF, zT, m1F, vT, cI, true_and, and_true, true_implies, false_implies, not_false_eq_true, not_true_eq_false, forall_eq, implies_true, g4]
              exact hQ
          · by_cases yt : y = 2
            · subst yt
              refine ⟨mI ρ' 1322 (60 * u + k), κ', ρ', fun ρ1 Q hQ => ?_, fun κ1 Q hQ => ?_, hR'⟩
              · simp (disch := omega) only [X_X11_object_19, X_X11_object_79, X_X11_object_0, X_X11_object, true_and, hL.1]
                refine c_thing1 hL hC xU hu ho hk (brF (by omega) (brF y1 (brT y2 (brF yz (brF yo ?_)))))
                simp (disch := omega) only [mI_c, mR_c, mJ_c, sI_c, sJ_c, sR_c, hL.1, hL.2.1, hL.2.2, hC.1, hC.2.1, hC.2.2.1, lT, lF, tT, tF, eF, pF, zT, m1F, vT, cI, true_and, and_true, true_implies, false_implies, not_false_eq_true, not_true_eq_false, forall_eq, implies_true, dI, e1, show (100 : Int32) = nI 100 from rfl]
                refine c0 _ _ ?_
                simp (disch := omega) only [mI_c, t1', t4']
                exact brF g4 hQ
              · simp (disch := omega) only [X_X12_object_19, X_X12_object_95, X_X12_object_0, X_X12_object, true_and, hM.1]
                refine m_place1 hM hm xU hu ho hk (brF (pI (by omega)) (brF y1 (brT y2 (brF yz (brF yo (d0 _ _ ?_))))))
                simp (disch := omega) only [mI_m, mR_m, hM.2, hm'.1, hm'.2, lT, lF, tT, tF, eF, pF, zT, m1F, vT, cI, true_and, and_true, true_implies, false_implies, not_false_eq_true, not_true_eq_false, forall_eq, implies_true]
                exact brF g4 hQ
            · refine ⟨mI ρ' 1323 (60 * u + k), κ', ρ', fun ρ1 Q hQ => ?_, fun κ1 Q hQ => ?_, hR'⟩
              · simp (disch := omega) only [X_X11_object_19, X_X11_object_79, X_X11_object_0, X_X11_object, true_and, hL.1]
                refine c_thing1 hL hC xU hu ho hk (brF (by omega) (brF y1 (brT y2 (brF yz (brF yo ?_)))))
                simp (disch := omega) only [mI_c, mR_c, mJ_c, sI_c, sJ_c, sR_c, hL.1, hL.2.1, hL.2.2, hC.1, hC.2.1, hC.2.2.1, lT, lF, tT, tF, eF, pF, zT, m1F, vT, cI, true_and, and_true, true_implies, false_implies, not_false_eq_true, not_true_eq_false, forall_eq, implies_true, dI, e1, show (100 : Int32) = nI 100 from rfl]
                refine c0 _ _ ?_
                simp (disch := omega) only [mI_c, t1', t5']
                exact brF g4 (brF yt hQ)
              · simp (disch := omega) only [X_X12_object_19, X_X12_object_95, X_X12_object_0, X_X12_object, true_and, hM.1]
                refine m_place1 hM hm xU hu ho hk (brF (pI (by omega)) (brF y1 (brT y2 (brF yz (brF yo (d0 _ _ ?_))))))
                simp (disch := omega) only [mI_m, mR_m, hM.2, hm'.1, hm'.2, lT, lF, tT, tF, eF, pF, zT, m1F, vT, cI, true_and, and_true, true_implies, false_implies, not_false_eq_true, not_true_eq_false, forall_eq, implies_true]
                refine brF g4 (brF yt ⟨fun e => ?_, fun _ => hQ⟩)
                have es : s = 2 := (eI (b := 2) (by omega) (by decide)).mp (z2.symm.trans e)
                rw [← (z10 es).1]
                exact hQ
  · refine ⟨-1, κ, ρ, fun ρ1 Q hQ => ?_, fun κ1 Q hQ => ?_, h0.up⟩
    · simp (disch := omega) only [X_X11_object_19, X_X11_object_79, X_X11_object_0, X_X11_object, true_and, hL.1]
      exact c_thing0 hL hC xU h (brT rfl hQ)
    · simp (disch := omega) only [X_X12_object_19, X_X12_object_95, X_X12_object_0, X_X12_object, true_and, hM.1]
      exact m_place0 hM hm xU h (brT (by decide) hQ)
end LIVE
