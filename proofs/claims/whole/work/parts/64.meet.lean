section MEET
variable {G : Lay} {nn nn' sc n r0 : Nat} {mc rt hc K K' N us : Nat → Nat} {κ κ' ρ ρ' κ1 ρ1 : Mem} {u k : Nat}
theorem objCase (us : Nat → Nat) (ρ : Mem) (u : Nat) (f x : Int32) : (∃ k, k < us u ∧ mI ρ 1320 (60 * u + k) = f ∧ mI ρ 1321 (60 * u + k) = x ∧ ∀ j, j < k → ¬ (mI ρ 1320 (60 * u + j) = f ∧ mI ρ 1321 (60 * u + j) = x)) ∨ ∀ j, j < us u → ¬ (mI ρ 1320 (60 * u + j) = f ∧ mI ρ 1321 (60 * u + j) = x) := by
  have key : ∀ d, (∃ k, k < d ∧ mI ρ 1320 (60 * u + k) = f ∧ mI ρ 1321 (60 * u + k) = x ∧ ∀ j, j < k → ¬ (mI ρ 1320 (60 * u + j) = f ∧ mI ρ 1321 (60 * u + j) = x)) ∨ ∀ j, j < d → ¬ (mI ρ 1320 (60 * u + j) = f ∧ mI ρ 1321 (60 * u + j) = x) := by
    intro d
    induction d with
    | zero => exact Or.inr (fun j hj => by omega)
    | succ d ih =>
      rcases ih with ⟨k, k1, k2⟩ | h
      · exact Or.inl ⟨k, by omega, k2⟩
      · by_cases e : mI ρ 1320 (60 * u + d) = f ∧ mI ρ 1321 (60 * u + d) = x
        · exact Or.inl ⟨d, by omega, e.1, e.2, h⟩
        · refine Or.inr (fun j hj => ?_)
          by_cases ej : j = d
          · subst ej; exact e
          · exact h j (by omega)
  exact key (us u)
theorem c_thingFor1 (hL : LyC G) (hC : StC κ) (hU : RelU us κ ρ) {Q : Nat → Mem → Prop} (hu : u < 4) (ho : mI ρ 1316 u = 1) {f x : Int32} (hk : k < us u) (e1 : mI ρ 1320 (60 * u + k) = f) (e2 : mI ρ 1321 (60 * u + k) = x) (e3 : ∀ j, j < k → ¬ (mI ρ 1320 (60 * u + j) = f ∧ mI ρ 1321 (60 * u + j) = x)) (q : Q (537 + 184 * u + 3 * k) (mg κ ρ1)) : X_X9_thingFor G Q (533 + 184 * u) f x (mg κ ρ1) := by
  obtain ⟨o1, o2, o3, o4, o5⟩ := hU.op hu ho
  unfold X_X9_thingFor X_X9_thingFor_0 X_X9_thingFor_2
  refine Lw.at k (fun K' i hi hk' => ?_) (fun K' => ?_)
  · obtain ⟨t1, t2, t3, -⟩ := o5 i (by omega)
    simp (disch := omega) only [X_X9_thingFor_2_s, X_X9_thingFor_43, lT, lF, tT, tF, eF, pF, zT, m1F, vT, cI, true_and, and_true, true_implies, false_implies, not_false_eq_true, not_true_eq_false, forall_eq, implies_true, nI_1, mI_c, mR_c, mJ_c, sI_c, sJ_c, sR_c, hL.1, hL.2.1, hL.2.2, hC.1, hC.2.1, hC.2.2.1, o2, t2, t3]
    exact ⟨fun a => ⟨fun b => absurd ⟨b, a⟩ (e3 i hi), fun _ => hk'⟩, fun _ => hk'⟩
  · obtain ⟨t1, t2, t3, -⟩ := o5 k hk
    simp (disch := omega) only [X_X9_thingFor_2_s, X_X9_thingFor_43, lT, lF, tT, tF, eF, pF, zT, m1F, vT, cI, true_and, and_true, true_implies, false_implies, not_false_eq_true, not_true_eq_false, forall_eq, implies_true, nI_1, mI_c, mR_c, mJ_c, sI_c, sJ_c, sR_c, hL.1, hL.2.1, hL.2.2, hC.1, hC.2.1, hC.2.2.1, o2, t2, t3, e1, e2]
    exact q
theorem c_thingFor0 (hL : LyC G) (hC : StC κ) (hU : RelU us κ ρ) {Q : Nat → Mem → Prop} (hu : u < 4) (ho : mI ρ 1316 u = 1) {f x : Int32} (e3 : ∀ j, j < us u → ¬ (mI ρ 1320 (60 * u + j) = f ∧ mI ρ 1321 (60 * u + j) = x)) (q : Q 0 (mg κ ρ1)) : X_X9_thingFor G Q (533 + 184 * u) f x (mg κ ρ1) := by
  obtain ⟨o1, o2, o3, o4, o5⟩ := hU.op hu ho
  unfold X_X9_thingFor X_X9_thingFor_0 X_X9_thingFor_2
  refine Lw.at (us u) (fun K' i hi hk' => ?_) (fun K' => ?_)
  · obtain ⟨t1, t2, t3, -⟩ := o5 i (by omega)
    simp (disch := omega) only [X_X9_thingFor_2_s, X_X9_thingFor_43, lT, lF, tT, tF, eF, pF, zT, m1F, vT, cI, true_and, and_true, true_implies, false_implies, not_false_eq_true, not_true_eq_false, forall_eq, implies_true, nI_1, mI_c, mR_c, mJ_c, sI_c, sJ_c, sR_c, hL.1, hL.2.1, hL.2.2, hC.1, hC.2.1, hC.2.2.1, o2, t2, t3]
    exact ⟨fun a => ⟨fun b => absurd ⟨b, a⟩ (e3 i hi), fun _ => hk'⟩, fun _ => hk'⟩
  · simp (disch := omega) only [X_X9_thingFor_2_s, X_X9_thingFor_43, lT, lF, tT, tF, eF, pF, zT, m1F, vT, cI, true_and, and_true, true_implies, false_implies, not_false_eq_true, not_true_eq_false, forall_eq, implies_true, nI_1, mI_c, mR_c, mJ_c, sI_c, sJ_c, sR_c, hL.1, hL.2.1, hL.2.2, hC.1, hC.2.1, hC.2.2.1, o2]
    exact q
theorem m_objectOf1 (hM : LyM G) (hm : StM ρ) (h60 : us u ≤ 60) (hn : mI ρ 1317 u = nI (us u)) {Q : Int32 → Mem → Prop} (hu : u < 4) {f x : Int32} (hk : k < us u) (e1 : mI ρ 1320 (60 * u + k) = f) (e2 : mI ρ 1321 (60 * u + k) = x) (e3 : ∀ j, j < k → ¬ (mI ρ 1320 (60 * u + j) = f ∧ mI ρ 1321 (60 * u + j) = x)) (q : Q (nI (60 * u + k)) (mg κ1 ρ)) : X_X12_objectOf G Q 1282 (nI u) f x (mg κ1 ρ) := by
  unfold X_X12_objectOf X_X12_objectOf_0 X_X12_objectOf_3
  refine Lw.at k (fun K' i hi hk' => ?_) (fun K' => ?_)
  · simp (disch := omega) only [X_X12_objectOf_3_s, X_X12_objectOf_48, nls, pk_mul, nI_add, lT, lF, tT, tF, eF, pF, zT, m1F, vT, cI, true_and, and_true, true_implies, false_implies, not_false_eq_true, not_true_eq_false, forall_eq, implies_true, nI_1, mI_m, mR_m, mJ_m, sI_m, sJ_m, hM.1, hM.2, hm.1, hm.2, hn]
    exact ⟨fun a => ⟨fun b => absurd ⟨a, b⟩ (e3 i hi), fun _ => hk'⟩, fun _ => hk'⟩
  · simp (disch := omega) only [X_X12_objectOf_3_s, X_X12_objectOf_48, nls, pk_mul, nI_add, lT, lF, tT, tF, eF, pF, zT, m1F, vT, cI, true_and, and_true, true_implies, false_implies, not_false_eq_true, not_true_eq_false, forall_eq, implies_true, nI_1, mI_m, mR_m, mJ_m, sI_m, sJ_m, hM.1, hM.2, hm.1, hm.2, hn, e1, e2]
    exact q
theorem m_objectOf0 (hM : LyM G) (hm : StM ρ) (h60 : us u ≤ 60) (hn : mI ρ 1317 u = nI (us u)) {Q : Int32 → Mem → Prop} (hu : u < 4) {f x : Int32} (e3 : ∀ j, j < us u → ¬ (mI ρ 1320 (60 * u + j) = f ∧ mI ρ 1321 (60 * u + j) = x)) (q : Q (-1) (mg κ1 ρ)) : X_X12_objectOf G Q 1282 (nI u) f x (mg κ1 ρ) := by
  unfold X_X12_objectOf X_X12_objectOf_0 X_X12_objectOf_3
  refine Lw.at (us u) (fun K' i hi hk' => ?_) (fun K' => ?_)
  · simp (disch := omega) only [X_X12_objectOf_3_s, X_X12_objectOf_48, nls, pk_mul, nI_add, lT, lF, tT, tF, eF, pF, zT, m1F, vT, cI, true_and, and_true, true_implies, false_implies, not_false_eq_true, not_true_eq_false, forall_eq, implies_true, nI_1, mI_m, mR_m, mJ_m, sI_m, sJ_m, hM.1, hM.2, hm.1, hm.2, hn]
    exact ⟨fun a => ⟨fun b => absurd ⟨a, b⟩ (e3 i hi), fun _ => hk'⟩, fun _ => hk'⟩
  · simp (disch := omega) only [X_X12_objectOf_3_s, X_X12_objectOf_48, nls, pk_mul, nI_add, lT, lF, tT, tF, eF, pF, zT, m1F, vT, cI, true_and, and_true, true_implies, false_implies, not_false_eq_true, not_true_eq_false, forall_eq, implies_true, nI_1, mI_m, mR_m, mJ_m, sI_m, sJ_m, hM.1, hM.2, hm.1, hm.2, hn]
    exact q
/-! a further object -/
theorem c_begin (hL : LyC G) (hC : StC κ) {Q : Mem → Prop} (hu : u < 4) (hk : k < 60) (s f x : Int32) (q : Q (mg (sF (sF (sI (sI (sI (sI (sI (sI κ (537 + 184 * u + 3 * k) 1 s) (537 + 184 * u + 3 * k) 2 f) (537 + 184 * u + 3 * k) 3 x) (537 + 184 * u + 3 * k) 4 (-1)) (537 + 184 * u + 3 * k) 5 0) (537 + 184 * u + 3 * k) 8 0) (538 + 184 * u + 3 * k) 0 16 (fun _ => 0)) (539 + 184 * u + 3 * k) 0 16 (fun _ => 0)) ρ1)) : X_X7_begin G Q (537 + 184 * u + 3 * k) s f x (mg κ ρ1) := by
  simp (disch := omega) only [X_X7_begin_0, X_X7_begin, X_X7_begin_33, mI_c, mR_c, mJ_c, sI_c, sJ_c, sR_c, hL.1, hL.2.1, hL.2.2, hC.1, hC.2.1, hC.2.2.1, lT, lF, tT, tF, eF, pF, zT, m1F, vT, cI, true_and, and_true, true_implies, false_implies, not_false_eq_true, not_true_eq_false, forall_eq, implies_true, bzT0]
  refine Lw.nat 16 (fun i y => y = (nI i, mg (sF (sF (sI (sI (sI (sI (sI (sI κ (537 + 184 * u + 3 * k) 1 s) (537 + 184 * u + 3 * k) 2 f) (537 + 184 * u + 3 * k) 3 x) (537 + 184 * u + 3 * k) 4 (-1)) (537 + 184 * u + 3 * k) 5 0) (537 + 184 * u + 3 * k) 8 0) (538 + 184 * u + 3 * k) 0 i (fun _ => 0)) (539 + 184 * u + 3 * k) 0 i (fun _ => 0)) ρ1)) ?_ 0 (by omega) _ ?_
  · rintro K' i y hi rfl hk'
    by_cases h : i < 16
    · simp (disch := omega) only [X_X7_begin_33_s, mI_c, mR_c, mJ_c, sI_c, sJ_c, sR_c, hL.1, hL.2.1, hL.2.2, hC.1, hC.2.1, hC.2.2.1, nls, lT, lF, tT, tF, eF, pF, zT, e0F, m1F, vT, cI, nI_1, nI_add, pk_mul, true_and, and_true, true_implies, false_implies, not_false_eq_true, not_true_eq_false, bzT1, bzT0, m10, m1z, o0F, forall_eq, implies_true, if_true, if_false, I_is, I_cl, I_sl, J_is, J_cl, J_sl, R_is, R_cl, R_sl, mI_sJ, mI_sR, mJ_sI, mJ_sR, mR_sI, mR_sJ, sF_R]
      refine hk' _ h ?_
      rw [fill2 (by omega) (by omega) rfl rfl]
    · obtain rfl : i = 16 := by omega
      simp (disch := omega) only [X_X7_begin_33_s, nls, lT, lF, tT, tF, eF, pF, zT, e0F, m1F, vT, cI, nI_1, nI_add, pk_mul, true_and, and_true, true_implies, false_implies, not_false_eq_true, not_true_eq_false, bzT1, bzT0, m10, m1z, o0F, forall_eq, implies_true, if_true, if_false]
      exact q
  · rw [sF_0, sF_0]
    rfl
def adC (u k a j : Nat) : Prop := ¬ (thC u k a j ∨ a = 533 + 184 * u ∧ j = 5 ∨ a = 531 ∨ a = 537 + 184 * u + 3 * k ∧ j = 8)
def adM (u k a j : Nat) : Prop := ¬ (thM (60 * u + k) a j ∨ a = 1317 ∧ j = u ∨ a = 1310)
theorem c_comesX (hG : Ly G) (hC : StC κ) (hU : RelU us κ ρ) (hu : u < 4) (ho : mI ρ 1316 u = 1) (h60 : us u < 60) (s f x : Int32) :
    ∃ κ', RunC (fun Q σ => X_X9_comes G Q (533 + 184 * u) s f x σ) κ (537 + 184 * u + 3 * us u) κ' ∧ StC κ' ∧ mI κ' (533 + 184 * u) 5 = nI (us u + 1) ∧ mI κ' (537 + 184 * u + 3 * us u) 1 = s ∧ mI κ' (537 + 184 * u + 3 * us u) 2 = f ∧ mI κ' (537 + 184 * u + 3 * us u) 3 = x ∧ mI κ' (537 + 184 * u + 3 * us u) 4 = -1 ∧ mI κ' (537 + 184 * u + 3 * us u) 5 = 0 ∧ (∀ m, m < 16 → mI κ' (538 + 184 * u + 3 * us u) m = 0 ∧ mI κ' (539 + 184 * u + 3 * us u) m = 0) ∧ (∀ j, mI κ' 531 j = mI κ 531 j) ∧ Eqv (adC u (us u)) κ κ' ∧ mI κ' (537 + 184 * u + 3 * us u) 8 = 0 := by
  have hL := hG.1
  obtain ⟨o1, o2, o3, o4, o5⟩ := hU.op hu ho
  refine ⟨?k, fun ρ1 Q hQ => ?run, ?st, ?a, ?b, ?c, ?d, ?e, ?f, ?g, ?h, ?i, ?j⟩
  case run =>
    simp (disch := omega) only [X_X9_comes_0, X_X9_comes, mI_c, mR_c, mJ_c, sI_c, sJ_c, sR_c, hL.1, hL.2.1, hL.2.2, hC.1, hC.2.1, hC.2.2.1, nls, lT, lF, tT, tF, eF, pF, zT, e0F, m1F, vT, cI, nI_1, nI_add, pk_mul, true_and, and_true, true_implies, false_implies, not_false_eq_true, not_true_eq_false, bzT1, bzT0, m10, m1z, o0F, forall_eq, implies_true, if_true, if_false, o2]
    refine c_begin hL ?_ hu h60 s f x ?_
    · exact hC
    · exact hQ
  case st => exact hC
  case a => simp (disch := omega) only [I_is, I_cl, I_sl, J_is, J_cl, J_sl, R_is, R_cl, R_sl, mI_sJ, mI_sR, mJ_sI, mJ_sR, mR_sI, mR_sJ, sF_cl]
  case b => simp (disch := omega) only [I_is, I_cl, I_sl, J_is, J_cl, J_sl, R_is, R_cl, R_sl, mI_sJ, mI_sR, mJ_sI, mJ_sR, mR_sI, mR_sJ, sF_cl]
  case c => simp (disch := omega) only [I_is, I_cl, I_sl, J_is, J_cl, J_sl, R_is, R_cl, R_sl, mI_sJ, mI_sR, mJ_sI, mJ_sR, mR_sI, mR_sJ, sF_cl]
  case d => simp (disch := omega) only [I_is, I_cl, I_sl, J_is, J_cl, J_sl, R_is, R_cl, R_sl, mI_sJ, mI_sR, mJ_sI, mJ_sR, mR_sI, mR_sJ, sF_cl]
  case e => simp (disch := omega) only [I_is, I_cl, I_sl, J_is, J_cl, J_sl, R_is, R_cl, R_sl, mI_sJ, mI_sR, mJ_sI, mJ_sR, mR_sI, mR_sJ, sF_cl]
  case f => simp (disch := omega) only [I_is, I_cl, I_sl, J_is, J_cl, J_sl, R_is, R_cl, R_sl, mI_sJ, mI_sR, mJ_sI, mJ_sR, mR_sI, mR_sJ, sF_cl]
  case g =>
    intro m hm
    simp (disch := omega) only [I_is, I_cl, I_sl, J_is, J_cl, J_sl, R_is, R_cl, R_sl, mI_sJ, mI_sR, mJ_sI, mJ_sR, mR_sI, mR_sJ, sF_cl, sF_in, and_self]
  case h =>
    intro j
    simp (disch := omega) only [I_is, I_cl, I_sl, J_is, J_cl, J_sl, R_is, R_cl, R_sl, mI_sJ, mI_sR, mJ_sI, mJ_sR, mR_sI, mR_sJ, sF_cl]
  case i =>
    refine (((((((((Eqv.rf.sI ?_ _).sI ?_ _).sI ?_ _).sI ?_ _).sI ?_ _).sI ?_ _).sI ?_ _).sF ?_).sF ?_)
    · exact fun h => h (Or.inr (Or.inl ⟨rfl, rfl⟩))
    · exact fun h => h (Or.inl (Or.inl ⟨rfl, by decide, by decide⟩))
    · exact fun h => h (Or.inl (Or.inl ⟨rfl, by decide, by decide⟩))
    · exact fun h => h (Or.inl (Or.inl ⟨rfl, by decide, by decide⟩))
    · exact fun h => h (Or.inl (Or.inl ⟨rfl, by decide, by decide⟩))
    · exact fun h => h (Or.inl (Or.inl ⟨rfl, by decide, by decide⟩))
    · exact fun h => h (Or.inr (Or.inr (Or.inr ⟨rfl, rfl⟩)))
    · exact fun q _ _ h => h (Or.inl (Or.inr (Or.inl rfl)))
    · exact fun q _ _ h => h (Or.inl (Or.inr (Or.inr rfl)))
  case j => simp (disch := omega) only [I_is, I_cl, I_sl, J_is, J_cl, J_sl, R_is, R_cl, R_sl, mI_sJ, mI_sR, mJ_sI, mJ_sR, mR_sI, mR_sJ, sF_cl]
theorem c_comes (hG : Ly G) (hC : StC κ) (hU : RelU us κ ρ) (hu : u < 4) (ho : mI ρ 1316 u = 1) (h60 : us u < 60) (s f x : Int32) :
    ∃ κ', RunC (fun Q σ => X_X9_comes G Q (533 + 184 * u) s f x σ) κ (537 + 184 * u + 3 * us u) κ' ∧ StC κ' ∧ mI κ' (533 + 184 * u) 5 = nI (us u + 1) ∧ mI κ' (537 + 184 * u + 3 * us u) 1 = s ∧ mI κ' (537 + 184 * u + 3 * us u) 2 = f ∧ mI κ' (537 + 184 * u + 3 * us u) 3 = x ∧ mI κ' (537 + 184 * u + 3 * us u) 4 = -1 ∧ mI κ' (537 + 184 * u + 3 * us u) 5 = 0 ∧ (∀ m, m < 16 → mI κ' (538 + 184 * u + 3 * us u) m = 0 ∧ mI κ' (539 + 184 * u + 3 * us u) m = 0) ∧ (∀ j, mI κ' 531 j = mI κ 531 j) ∧ Eqv (adC u (us u)) κ κ' := by
  obtain ⟨κ', c0, c1, c2, c3, c4, c5, c6, c7, c8, c9, c10, -⟩ := c_comesX hG hC hU hu ho h60 s f x
  exact ⟨κ', c0, c1, c2, c3, c4, c5, c6, c7, c8, c9, c10⟩
theorem m_newObject (hM : LyM G) (hm : StM ρ) (hu : u < 4) (hn : mI ρ 1317 u = nI (us u)) (h60 : us u < 60) (s f x : Int32) :
    ∃ ρ', RunM (fun Q σ => X_X12_newObject G Q 1282 (nI u) f x s σ) ρ (nI (60 * u + us u)) ρ' ∧ StM ρ' ∧ mI ρ' 1317 u = nI (us u + 1) ∧ mI ρ' 1319 (60 * u + us u) = s ∧ mI ρ' 1320 (60 * u + us u) = f ∧ mI ρ' 1321 (60 * u + us u) = x ∧ mI ρ' 1322 (60 * u + us u) = -1 ∧ mI ρ' 1323 (60 * u + us u) = 0 ∧ (∀ m, m < 16 → mI ρ' 1324 (16 * (60 * u + us u) + m) = 0 ∧ mI ρ' 1325 (16 * (60 * u + us u) + m) = 0) ∧ (∀ j, mI ρ' 1310 j = mI ρ 1310 j) ∧ Eqv (adM u (us u)) ρ ρ' := by
  refine ⟨sF (sF (sI (sI (sI (sI (sI (sI ρ 1317 u (nI (us u + 1))) 1319 (60 * u + us u) s) 1320 (60 * u + us u) f) 1321 (60 * u + us u) x) 1322 (60 * u + us u) (-1)) 1323 (60 * u + us u) 0) 1324 (16 * (60 * u + us u)) (16 * (60 * u + us u) + 16) (fun _ => 0)) 1325 (16 * (60 * u + us u)) (16 * (60 * u + us u) + 16) (fun _ => 0), fun κ1 Q hQ => ?run, ?st, ?a, ?b, ?c, ?d, ?e, ?f, ?g, ?h, ?i⟩
  case run =>
    simp (disch := omega) only [X_X12_newObject_0, X_X12_newObject, X_X12_newObject_67, show (60 : Int32) = nI 60 from rfl, pk_mul, nI_add, nI_1, mI_m, mR_m, mJ_m, sI_m, sJ_m, hM.1, hM.2, hm.1, hm.2, lT, lF, tT, tF, eF, pF, zT, m1F, vT, cI, true_and, and_true, true_implies, false_implies, not_false_eq_true, not_true_eq_false, forall_eq, implies_true, I_is, I_cl, I_sl, J_is, J_cl, J_sl, R_is, R_cl, R_sl, mI_sJ, mI_sR, mJ_sI, mJ_sR, mR_sI, mR_sJ, hn]
    refine Lw.nat 16 (fun i y => y = (nI i, mg κ1 (sF (sF (sI (sI (sI (sI (sI (sI ρ 1317 u (nI (us u + 1))) 1319 (60 * u + us u) s) 1320 (60 * u + us u) f) 1321 (60 * u + us u) x) 1322 (60 * u + us u) (-1)) 1323 (60 * u + us u) 0) 1324 (16 * (60 * u + us u)) (16 * (60 * u + us u) + i) (fun _ => 0)) 1325 (16 * (60 * u + us u)) (16 * (60 * u + us u) + i) (fun _ => 0)))) ?_ 0 (by omega) _ ?_
    · rintro K' i y hi rfl hk'
      by_cases h : i < 16
      · simp (disch := omega) only [X_X12_newObject_67_s, mI_m, mR_m, mJ_m, sI_m, sJ_m, hM.1, hM.2, hm.1, hm.2, nls, lT, lF, tT, tF, eF, pF, zT, e0F, m1F, vT, cI, nI_1, nI_add, pk_mul, true_and, and_true, true_implies, false_implies, not_false_eq_true, not_true_eq_false, bzT1, bzT0, m10, m1z, o0F, forall_eq, implies_true, if_true, if_false, I_is, I_cl, I_sl, J_is, J_cl, J_sl, R_is, R_cl, R_sl, mI_sJ, mI_sR, mJ_sI, mJ_sR, mR_sI, mR_sJ, sF_R]
        refine hk' _ h ?_
        rw [fill2 (by omega) (by omega) rfl rfl]
        rfl
      · obtain rfl : i = 16 := by omega
        simp (disch := omega) only [X_X12_newObject_67_s, nls, lT, lF, tT, tF, eF, pF, zT, e0F, m1F, vT, cI, nI_1, nI_add, pk_mul, true_and, and_true, true_implies, false_implies, not_false_eq_true, not_true_eq_false, bzT1, bzT0, m10, m1z, o0F, forall_eq, implies_true, if_true, if_false]
        exact hQ
    · simp only [Nat.add_zero, sF_0]
      rfl
  case st => exact hm
  case a => simp (disch := omega) only [I_is, I_cl, I_sl, J_is, J_cl, J_sl, R_is, R_cl, R_sl, mI_sJ, mI_sR, mJ_sI, mJ_sR, mR_sI, mR_sJ, sF_cl]
  case b => simp (disch := omega) only [I_is, I_cl, I_sl, J_is, J_cl, J_sl, R_is, R_cl, R_sl, mI_sJ, mI_sR, mJ_sI, mJ_sR, mR_sI, mR_sJ, sF_cl]
  case c => simp (disch := omega) only [I_is, I_cl, I_sl, J_is, J_cl, J_sl, R_is, R_cl, R_sl, mI_sJ, mI_sR, mJ_sI, mJ_sR, mR_sI, mR_sJ, sF_cl]
  case d => simp (disch := omega) only [I_is, I_cl, I_sl, J_is, J_cl, J_sl, R_is, R_cl, R_sl, mI_sJ, mI_sR, mJ_sI, mJ_sR, mR_sI, mR_sJ, sF_cl]
  case e => simp (disch := omega) only [I_is, I_cl, I_sl, J_is, J_cl, J_sl, R_is, R_cl, R_sl, mI_sJ, mI_sR, mJ_sI, mJ_sR, mR_sI, mR_sJ, sF_cl]
  case f => simp (disch := omega) only [I_is, I_cl, I_sl, J_is, J_cl, J_sl, R_is, R_cl, R_sl, mI_sJ, mI_sR, mJ_sI, mJ_sR, mR_sI, mR_sJ, sF_cl]
  case g =>
    intro m hm
    simp (disch := omega) only [I_is, I_cl, I_sl, J_is, J_cl, J_sl, R_is, R_cl, R_sl, mI_sJ, mI_sR, mJ_sI, mJ_sR, mR_sI, mR_sJ, sF_cl, sF_in, and_self]
  case h =>
    intro j
    simp (disch := omega) only [I_is, I_cl, I_sl, J_is, J_cl, J_sl, R_is, R_cl, R_sl, mI_sJ, mI_sR, mJ_sI, mJ_sR, mR_sI, mR_sJ, sF_cl]
  case i =>
    refine ((((((((Eqv.rf.sI ?_ _).sI ?_ _).sI ?_ _).sI ?_ _).sI ?_ _).sI ?_ _).sF ?_).sF ?_)
    · exact fun h => h (Or.inr (Or.inl ⟨rfl, rfl⟩))
    · exact fun h => h (Or.inl (Or.inl ⟨by decide, by decide, rfl⟩))
    · exact fun h => h (Or.inl (Or.inl ⟨by decide, by decide, rfl⟩))
    · exact fun h => h (Or.inl (Or.inl ⟨by decide, by decide, rfl⟩))
    · exact fun h => h (Or.inl (Or.inl ⟨by decide, by decide, rfl⟩))
    · exact fun h => h (Or.inl (Or.inl ⟨by decide, by decide, rfl⟩))
    · exact fun q q1 q2 h => h (Or.inl (Or.inr ⟨by decide, by decide, q1, q2⟩))
    · exact fun q q1 q2 h => h (Or.inl (Or.inr ⟨by decide, by decide, q1, q2⟩))
end MEET
