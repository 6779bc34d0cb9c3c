/-! what is meant, copied to the heirs -/
section MEA
variable {G : Lay} {κ κ' ρ ρ' ρ1 κ1 : Mem} {sd s n nw c m t o : Nat} {mc rt hc ow tb : Nat → Nat} {v : Int64} {Q : Int32 → Mem → Prop}
def cpM2 (ρ : Mem) (k ko : Nat) : Mem := sI (sI ρ 1291 k (mI ρ 1291 ko)) 1295 k (mI ρ 1295 ko)
theorem m_copyMeant (hM : LyM G) (hm : StM ρ) (hcn : c < 12) (h16 : m < 16) (ho : o < 12) (e : mI ρ 1296 (16 * (13 + c) + m) = nI o) {Q : Mem → Prop} (q : Q (mg κ1 (cpM2 ρ (16 * (13 + c) + m) (16 * (13 + o) + m)))) : X_X12_copyMeant G Q 1282 (nI (13 + c)) (nI m) (mg κ1 ρ) := by
  have n13 : (13 : Int32) = nI 13 := rfl
  have n16 : (16 : Int32) = nI 16 := rfl
  simp (disch := omega) only [X_X12_copyMeant, X_X12_copyMeant_0, mI_m, mR_m, mJ_m, sI_m, sJ_m, hM.1, hM.2, hm.1, hm.2, lT, lF, tT, tF, eF, pF, zT, m1F, vT, cI, true_and, and_true, true_implies, false_implies, not_false_eq_true, not_true_eq_false, forall_eq, implies_true, I_is, I_cl, I_sl, J_is, J_cl, J_sl, R_is, R_cl, R_sl, mI_sJ, mI_sR, mJ_sI, mJ_sR, mR_sI, mR_sJ, e, n13, n16, pk_mul, nI_add]
  exact q
theorem cpM2_Eqv {ρ : Mem} {k ko : Nat} : Eqv (fun a q => ¬ ((a = 1291 ∨ a = 1295) ∧ q = k)) ρ (cpM2 ρ k ko) := by
  refine (Eqv.wI ?_ _).sI ?_ _
  all_goals exact fun h => h (by omega)
def ps2 (mc ow : Nat → Nat) (n : Nat) (ρ : Mem) (c0 m0 : Nat) (ρ' : Mem) : Prop := StM ρ' ∧ Eqv (fun a k => ¬ ((a = 1291 ∨ a = 1295) ∧ 208 ≤ k)) ρ ρ' ∧ (∀ c m, c < n → ow c ≤ m → m < mc c → mI ρ' 1291 (16 * (13 + c) + m) = mI ρ 1291 (16 * (13 + c) + m) ∧ mI ρ' 1295 (16 * (13 + c) + m) = mI ρ 1295 (16 * (13 + c) + m)) ∧ ∀ c m o, (c < c0 ∨ c = c0 ∧ m < m0) → c < n → m < mc c → o < 12 → mI ρ 1296 (16 * (13 + c) + m) = nI o → mI ρ' 1291 (16 * (13 + c) + m) = mI ρ 1291 (16 * (13 + o) + m) ∧ mI ρ' 1295 (16 * (13 + c) + m) = mI ρ 1295 (16 * (13 + o) + m)
theorem ps2.stp (hB : DB sd n nw mc rt hc ow tb κ ρ) (hcn : c < n) (hmc : m < mc c) (h : ps2 mc ow n ρ c m ρ') : ∃ o, o < 12 ∧ mI ρ' 1296 (16 * (13 + c) + m) = nI o ∧ ps2 mc ow n ρ c (m + 1) (cpM2 ρ' (16 * (13 + c) + m) (16 * (13 + o) + m)) := by
  obtain ⟨hm', fr, fo, ff⟩ := h
  obtain ⟨o, o1, o2, o3, o4, o5, o6, o7⟩ := hB.owner hcn hmc
  have h12 := hB.2.2.1
  have law := hB.2.1.2
  have lc := law c hcn
  obtain ⟨p1, p2⟩ := fo o m (by omega) o2 o3
  refine ⟨o, by omega, (fr.I (by omega)).trans o4, (hm'.wI _ _ _).wI _ _ _, fr.tr (cpM2_Eqv.mo fun a k (hh : ¬ ((a = 1291 ∨ a = 1295) ∧ 208 ≤ k)) => by omega), fun c' m' h1 h2 h3 => ?_, fun c' m' o' h1 h2 h3 h4 h5 => ?_⟩
  · have l' := law c' h1
    by_cases e : c' = c ∧ m' = m
    · obtain ⟨rfl, rfl⟩ := e
      have eo := o7.mpr h2
      subst eo
      unfold cpM2
      simp (disch := omega) only [I_is, I_cl, I_sl, J_is, J_cl, J_sl, R_is, R_cl, R_sl, mI_sJ, mI_sR, mJ_sI, mJ_sR, mR_sI, mR_sJ]
      exact ⟨p1, p2⟩
    · have g := fun a => (cpM2_Eqv (ρ := ρ') (k := 16 * (13 + c) + m) (ko := 16 * (13 + o) + m)).I (a := a) (k := 16 * (13 + c') + m') (by omega)
      rw [g, g]; exact fo c' m' h1 h2 h3
  · have l' := law c' h2
    by_cases e : c' = c ∧ m' = m
    · obtain ⟨rfl, rfl⟩ := e
      rw [o4] at h5
      have eo := (eI (by omega) (by omega)).mp h5
      subst eo
      unfold cpM2
      simp (disch := omega) only [I_is, I_cl, I_sl, J_is, J_cl, J_sl, R_is, R_cl, R_sl, mI_sJ, mI_sR, mJ_sI, mJ_sR, mR_sI, mR_sJ]
      exact ⟨p1, p2⟩
    · have g := fun a => (cpM2_Eqv (ρ := ρ') (k := 16 * (13 + c) + m) (ko := 16 * (13 + o) + m)).I (a := a) (k := 16 * (13 + c') + m') (by omega)
      rw [g, g]; exact ff c' m' o' (by omega) h2 h3 h4 h5
theorem m_pass2 (hM : LyM G) (hm : StM ρ) (hR : DRf sd n nw mc rt hc ow tb κ ρ) : ∃ ρ', ps2 mc ow n ρ n 0 ρ' ∧ ∀ κ1 (Q : Int32 → Mem → Prop), X_X12_readClasses_191 G Q 1282 13 (mg κ1 ρ') → X_X12_readClasses_147 G Q 1282 13 (mg κ1 ρ) := by
  obtain ⟨hB, hN, -, q4, q5⟩ := id hR
  have h12 := hB.2.2.1
  have law := hB.2.1.2
  have n13 : (13 : Int32) = nI 13 := rfl
  obtain ⟨ρ', hJ, run⟩ := Lw.nest (ι := Mem × (Int32 → Mem → Prop)) (fun q => X_X12_readClasses_147_s G q.2 1282) (fun q K c => X_X12_readClasses_160_s G q.2 K 1282 (nI (13 + c))) (fun ρ q => mg q.1 ρ) n mc (ps2 mc ow n ρ) (by
      rintro c ρ' hcn ⟨hm', fr, -⟩ q K hh
      have e56 : mI ρ' 1282 56 = nI n := (fr.I (by omega)).trans q4
      have hm := hm'
      show X_X12_readClasses_147_s G q.2 1282 K (nI (13 + c), mg q.1 ρ')
      simp (disch := omega) only [X_X12_readClasses_147_s, mI_m, mR_m, mJ_m, sI_m, sJ_m, hM.1, hM.2, hm.1, hm.2, e56, n13, nI_add, lT, lF, tT, tF, eF, pF, zT, m1F, vT, cI, true_and, and_true, true_implies, false_implies, not_false_eq_true, not_true_eq_false, forall_eq, implies_true]
      exact hh) (by
      rintro c ρ' hcn ⟨hm', fr, fo, ff⟩
      refine ⟨⟨hm', fr, fo, fun c' m' o' h1 h2 h3 => ff c' m' o' (lexS h1 h3) h2 h3⟩, fun q K K2 hK => ?_⟩
      have e87 : mI ρ' 1287 (13 + c) = nI (mc c) := (fr.I (by omega)).trans (hN c hcn).1.2
      have := law c hcn
      have hm := hm'
      show X_X12_readClasses_160_s G q.2 K 1282 (nI (13 + c)) K2 (nI (mc c), mg q.1 ρ')
      simp (disch := omega) only [X_X12_readClasses_160_s, mI_m, mR_m, mJ_m, sI_m, sJ_m, hM.1, hM.2, hm.1, hm.2, e87, nI_add, nI_1, lT, lF, tT, tF, eF, pF, zT, m1F, vT, cI, true_and, and_true, true_implies, false_implies, not_false_eq_true, not_true_eq_false, forall_eq, implies_true]
      rw [show 13 + c + 1 = 13 + (c + 1) by omega]
      exact hK) (by
      rintro c m ρ' hcn hmc h
      obtain ⟨o, ho, e96, h2⟩ := h.stp hB hcn hmc
      obtain ⟨hm', fr, -⟩ := h
      have e87 : mI ρ' 1287 (13 + c) = nI (mc c) := (fr.I (by omega)).trans (hN c hcn).1.2
      have lc := law c hcn
      have hm := hm'
      refine ⟨_, h2, fun q K K2 hK => ?_⟩
      show X_X12_readClasses_160_s G q.2 K 1282 (nI (13 + c)) K2 (nI m, mg q.1 ρ')
      simp (disch := omega) only [X_X12_readClasses_160_s, mI_m, mR_m, mJ_m, sI_m, sJ_m, hM.1, hM.2, hm.1, hm.2, e87, nI_1, lT, lF, tT, tF, eF, pF, zT, m1F, vT, cI, true_and, and_true, true_implies, false_implies, not_false_eq_true, not_true_eq_false, forall_eq, implies_true]
      exact m_copyMeant hM hm (by omega) (by omega) ho e96 hK) ρ ⟨hm, Eqv.rf, fun c m h1 h2 h3 => ⟨rfl, rfl⟩, fun c' m' o' h1 => by omega⟩
  refine ⟨ρ', hJ, fun κ1 Q hQ => ?_⟩
  obtain ⟨hm', fr, -⟩ := hJ
  have e56 : mI ρ' 1282 56 = nI n := (fr.I (by omega)).trans q4
  refine run (κ1, Q) (fun K => ?_)
  show X_X12_readClasses_147_s G Q 1282 K (nI (13 + n), mg κ1 ρ')
  have hm := hm'
  simp (disch := omega) only [X_X12_readClasses_147_s, mI_m, mR_m, mJ_m, sI_m, sJ_m, hM.1, hM.2, hm.1, hm.2, e56, n13, nI_add, lT, lF, tT, tF, eF, pF, zT, m1F, vT, cI, true_and, and_true, true_implies, false_implies, not_false_eq_true, not_true_eq_false, forall_eq, implies_true]
  exact hQ
theorem m_pass4 (hM : LyM G) (hm : StM ρ) (hR : DRf sd n nw mc rt hc ow tb κ ρ) : ∃ ρ', ps2 mc ow n ρ n 0 ρ' ∧ ∀ κ1 (Q : Int32 → Mem → Prop), Q 1 (mg κ1 ρ') → X_X12_readClasses_408 G Q 1282 13 (mg κ1 ρ) := by
  obtain ⟨hB, hN, -, q4, q5⟩ := id hR
  have h12 := hB.2.2.1
  have law := hB.2.1.2
  have n13 : (13 : Int32) = nI 13 := rfl
  obtain ⟨ρ', hJ, run⟩ := Lw.nest (ι := Mem × (Int32 → Mem → Prop)) (fun q => X_X12_readClasses_408_s G q.2 1282) (fun q K c => X_X12_readClasses_421_s G q.2 K 1282 (nI (13 + c))) (fun ρ q => mg q.1 ρ) n mc (ps2 mc ow n ρ) (by
      rintro c ρ' hcn ⟨hm', fr, -⟩ q K hh
      have e56 : mI ρ' 1282 56 = nI n := (fr.I (by omega)).trans q4
      have hm := hm'
      show X_X12_readClasses_408_s G q.2 1282 K (nI (13 + c), mg q.1 ρ')
      simp (disch := omega) only [X_X12_readClasses_408_s, mI_m, mR_m, mJ_m, sI_m, sJ_m, hM.1, hM.2, hm.1, hm.2, e56, n13, nI_add, lT, lF, tT, tF, eF, pF, zT, m1F, vT, cI, true_and, and_true, true_implies, false_implies, not_false_eq_true, not_true_eq_false, forall_eq, implies_true]
      exact hh) (by
      rintro c ρ' hcn ⟨hm', fr, fo, ff⟩
      refine ⟨⟨hm', fr, fo, fun c' m' o' h1 h2 h3 => ff c' m' o' (lexS h1 h3) h2 h3⟩, fun q K K2 hK => ?_⟩
      have e87 : mI ρ' 1287 (13 + c) = nI (mc c) := (fr.I (by omega)).trans (hN c hcn).1.2
      have := law c hcn
      have hm := hm'
      show X_X12_readClasses_421_s G q.2 K 1282 (nI (13 + c)) K2 (nI (mc c), mg q.1 ρ')
      simp (disch := omega) only [X_X12_readClasses_421_s, mI_m, mR_m, mJ_m, sI_m, sJ_m, hM.1, hM.2, hm.1, hm.2, e87, nI_add, nI_1, lT, lF, tT, tF, eF, pF, zT, m1F, vT, cI, true_and, and_true, true_implies, false_implies, not_false_eq_true, not_true_eq_false, forall_eq, implies_true]
      rw [show 13 + c + 1 = 13 + (c + 1) by omega]
      exact hK) (by
      rintro c m ρ' hcn hmc h
      obtain ⟨o, ho, e96, h2⟩ := h.stp hB hcn hmc
      obtain ⟨hm', fr, -⟩ := h
      have e87 : mI ρ' 1287 (13 + c) = nI (mc c) := (fr.I (by omega)).trans (hN c hcn).1.2
      have lc := law c hcn
      have hm := hm'
      refine ⟨_, h2, fun q K K2 hK => ?_⟩
      show X_X12_readClasses_421_s G q.2 K 1282 (nI (13 + c)) K2 (nI m, mg q.1 ρ')
      simp (disch := omega) only [X_X12_readClasses_421_s, mI_m, mR_m, mJ_m, sI_m, sJ_m, hM.1, hM.2, hm.1, hm.2, e87, nI_1, lT, lF, tT, tF, eF, pF, zT, m1F, vT, cI, true_and, and_true, true_implies, false_implies, not_false_eq_true, not_true_eq_false, forall_eq, implies_true]
      exact m_copyMeant hM hm (by omega) (by omega) ho e96 hK) ρ ⟨hm, Eqv.rf, fun c m h1 h2 h3 => ⟨rfl, rfl⟩, fun c' m' o' h1 => by omega⟩
  refine ⟨ρ', hJ, fun κ1 Q hQ => ?_⟩
  obtain ⟨hm', fr, -⟩ := hJ
  have e56 : mI ρ' 1282 56 = nI n := (fr.I (by omega)).trans q4
  refine run (κ1, Q) (fun K => ?_)
  show X_X12_readClasses_408_s G Q 1282 K (nI (13 + n), mg κ1 ρ')
  have hm := hm'
  simp (disch := omega) only [X_X12_readClasses_408_s, mI_m, mR_m, mJ_m, sI_m, sJ_m, hM.1, hM.2, hm.1, hm.2, e56, n13, nI_add, lT, lF, tT, tF, eF, pF, zT, m1F, vT, cI, true_and, and_true, true_implies, false_implies, not_false_eq_true, not_true_eq_false, forall_eq, implies_true]
  exact ⟨bz1, hQ⟩
end MEA
