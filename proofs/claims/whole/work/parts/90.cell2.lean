section CELL2
variable {G : Lay} {nn nn' sc n r0 : Nat} {mc rt hc K K' N us : Nat → Nat} {κ κ' ρ ρ' κ1 ρ1 : Mem} {u k : Nat}
theorem isa_rt' (hS : RelS sc n mc rt hc κ ρ) : ∀ d, d < n → isa (par ρ) d (rt d) = true := by
  intro d
  induction d using Nat.strongRecOn with
  | _ d ih =>
    intro hd
    by_cases e : d = rt d
    · rw [← e]; exact isa_self _ _
    · rcases hS.hei hd with ⟨e1, e2⟩ | ⟨p, e1, e2, e3, -⟩
      · omega
      · rw [isa_up hS.par hS.le hd e1 e2 e, e3]; exact ih p e1 (by omega)
theorem m_cellIn (hM : LyM G) (hm : StM ρ) (hS : RelS sc n mc rt hc κ ρ) {d r k w : Nat} {x f way : Int32} (hd : d < n) (hr : r < 720) (hk1 : k < n) (hw : w < 2147483648) {Q : Int64 → Mem → Prop} {K1 : Int32 × Int32 × Mem → Prop} (q1 : ∀ m, nth (isColW way ρ k) (mc k) 0 w = .inl m → Q (cva ρ d r (some (k, m))) (mg κ1 ρ)) (q0 : ∀ l, nth (isColW way ρ k) (mc k) 0 w = .inr l → K1 (nI l, nI (k + 1), mg κ1 ρ)) : X_X12_cell_217 G Q K1 1282 x f (nI r) way (nI d) (nI w) (nI k) 0 (mg κ1 ρ) := by
  have h12 := hS.le
  have h16 := hS.m16 hk1
  have hmc := (hS.cls hk1).2.2.2.2.1
  unfold X_X12_cell_217
  refine Lw.nat (mc k) (fun i y => ∃ w', w' ≤ w ∧ y = (nI w', nI i, mg κ1 ρ) ∧ nth (isColW way ρ k) (mc k - i) i w' = nth (isColW way ρ k) (mc k) 0 w) ?_ 0 (Nat.zero_le _) _ ⟨w, Nat.le_refl _, rfl, rfl⟩
  rintro K' i y hi ⟨w', hw', rfl, e⟩ hk
  by_cases hlt : i < mc k
  · rw [show mc k - i = (mc k - (i + 1)) + 1 by omega, nth_s] at e
    have no : isColW way ρ k i = false → K' (nI w', nI (i + 1), mg κ1 ρ) := fun hf => by
      rw [hf, if_neg (by decide)] at e
      exact hk _ hlt ⟨w', hw', rfl, e⟩
    have yes : isColW way ρ k i = true → X_X12_cell_273 G Q K1 K' 1282 x f (nI r) way (nI d) (nI w') (nI k) (nI i) (mg κ1 ρ) := fun ht => by
      rw [ht, if_pos rfl] at e
      simp (disch := omega) only [X_X12_cell_273, X_X12_cell_310, X_X12_cell_314, hM.1, true_and, nI_1]
      refine ⟨fun z => ?_, fun z => ?_⟩
      · have z0 : w' = 0 := (eI (b := 0) (by omega) (by decide)).mp z
        rw [if_pos z0] at e
        have q1 : Q (if isa (par ρ) d k = true then (mI ρ 1309 (16 * r + i)).toInt64 else -4294967296) (mg κ1 ρ) := q1 i e.symm
        refine m_isA0 hM hm hS.par h12 hd (by omega) (fun e => br1 ?_) (fun e => br0 ?_)
        · rw [if_pos e] at q1
          simp (disch := omega) only [show (16 : Int32) = nI 16 from rfl, pk_mul, nI_add, mI_m, mR_m, hM.1, hM.2, hm.1, hm.2, lT, lF, tT, tF, eF, pF, zT, m1F, vT, cI, true_and, and_true, true_implies, false_implies, not_false_eq_true, not_true_eq_false, forall_eq, implies_true]
          exact q1
        · rw [if_neg (by rw [e]; decide)] at q1
          exact q1
      · have z0 : ¬ w' = 0 := fun x => z (by rw [x]; rfl)
        rw [if_neg z0] at e
        rw [d1I (by omega)]
        exact hk _ hlt ⟨w' - 1, by omega, rfl, e⟩
    simp (disch := omega) only [X_X12_cell_217_s, X_X12_cell_314, show (16 : Int32) = nI 16 from rfl, pk_mul, nI_add, mI_m, mR_m, hM.1, hM.2, hm.1, hm.2, lT, lF, tT, tF, eF, pF, zT, m1F, vT, cI, true_and, and_true, true_implies, false_implies, not_false_eq_true, not_true_eq_false, forall_eq, implies_true, hmc, nI_1]
    refine ⟨fun e5 => no (decide_eq_false (fun x => x.1 e5)), fun e5 => ⟨fun z => yes (decide_eq_true ⟨e5, Or.inl z⟩), fun z => ⟨fun eo => yes (decide_eq_true ⟨e5, Or.inr eo⟩), fun eo => no (decide_eq_false (fun x => x.2.elim z eo))⟩⟩⟩
  · obtain rfl : i = mc k := by omega
    rw [Nat.sub_self] at e
    simp (disch := omega) only [X_X12_cell_217_s, X_X12_cell_320, mI_m, mR_m, hM.1, hM.2, hm.1, hm.2, lT, lF, tT, tF, eF, pF, zT, m1F, vT, cI, true_and, and_true, true_implies, false_implies, not_false_eq_true, not_true_eq_false, forall_eq, implies_true, hmc, nI_1]
    exact q0 w' e.symm
def selW (way : Int32) (rt : Nat → Nat) (f c k : Nat) : Bool := if way = 0 then decide (rt k = f) else decide (k = c)
theorem m_cellOut (hM : LyM G) (hm : StM ρ) (hS : RelS sc n mc rt hc κ ρ) {d r c f w : Nat} {way : Int32} (hd : d < n) (hr : r < 720) (hc1 : c < n) (hf : f < n) (hw : w < 2147483648) {Q : Int64 → Mem → Prop} (q : Q (cva ρ d r (outr (selW way rt f c) (fun k w => nth (isColW way ρ k) (mc k) 0 w) n 0 w)) (mg κ1 ρ)) : X_X12_cell_160 G Q 1282 (nI c) (nI f) (nI r) way (nI d) (nI w) 0 (mg κ1 ρ) := by
  have h12 := hS.le
  unfold X_X12_cell_160
  refine Lw.nat n (fun i y => ∃ w', w' ≤ w ∧ y = (nI w', nI i, mg κ1 ρ) ∧ outr (selW way rt f c) (fun k w => nth (isColW way ρ k) (mc k) 0 w) (n - i) i w' = outr (selW way rt f c) (fun k w => nth (isColW way ρ k) (mc k) 0 w) n 0 w) ?_ 0 (Nat.zero_le _) _ ⟨w, Nat.le_refl _, rfl, rfl⟩
  rintro K' i y hi ⟨w', hw', rfl, e⟩ hk
  rw [← e] at q
  by_cases hlt : i < n
  · have hrt := hS.rt12 hlt
    rw [show n - i = (n - (i + 1)) + 1 by omega, outr_s] at e q
    have no : selW way rt f c i = false → X_X12_cell_204 G Q K' 1282 (nI c) (nI f) (nI r) way (nI d) (nI w') (nI i) 0 (mg κ1 ρ) := fun hf => by
      rw [hf, if_neg (by decide)] at e
      simp (disch := omega) only [X_X12_cell_204, X_X12_cell_320, nI_1]
      exact brT trivial (hk _ hlt ⟨w', hw', rfl, e⟩)
    have yes : selW way rt f c i = true → X_X12_cell_204 G Q K' 1282 (nI c) (nI f) (nI r) way (nI d) (nI w') (nI i) 1 (mg κ1 ρ) := fun ht => by
      rw [ht, if_pos rfl] at e q
      simp (disch := omega) only [X_X12_cell_204]
      refine br1 (m_cellIn hM hm hS hd hr hlt (by omega) (fun m em => ?_) (fun l el => ?_))
      · rw [em] at q; exact q
      · rw [el] at e
        have := nth_inr _ _ _ _ el
        exact hk _ hlt ⟨l, by omega, rfl, e⟩
    simp (disch := omega) only [X_X12_cell_160_s, mI_m, hM.1, lT, lF, tT, tF, eF, pF, zT, m1F, vT, cI, true_and, and_true, true_implies, false_implies, not_false_eq_true, not_true_eq_false, forall_eq, implies_true, hS.nM]
    refine ⟨fun z => m_rootOf hM hm hS hlt ⟨fun er => yes ?_, fun er => no ?_⟩, fun z => ⟨fun er => yes ?_, fun er => no ?_⟩⟩
    · unfold selW; rw [if_pos z]; exact decide_eq_true ((eI (by omega) (by omega)).mp er)
    · unfold selW; rw [if_pos z]; exact decide_eq_false (fun h => er (by rw [h]))
    · unfold selW; rw [if_neg z]; exact decide_eq_true ((eI (by omega) (by omega)).mp er)
    · unfold selW; rw [if_neg z]; exact decide_eq_false (fun h => er (by rw [h]))
  · obtain rfl : i = n := by omega
    rw [Nat.sub_self] at q
    simp (disch := omega) only [X_X12_cell_160_s, mI_m, hM.1, lT, lF, tT, tF, eF, pF, zT, m1F, vT, cI, true_and, and_true, true_implies, false_implies, not_false_eq_true, not_true_eq_false, forall_eq, implies_true, hS.nM]
    exact q
/-- the class's, one table a family -/
theorem c_oneOut (hG : Ly G) (hC : StC κ) (hS : RelS sc n mc rt hc κ ρ) {d r i c f w : Nat} {way : Int32} (hd : d < n) (hc1 : c < n) (hf : f < n) (hi : i < 720) (hr : r < 720) (w3 : mI κ 272 i = nI d) (w5 : ∀ m, m < 16 → mI κ 274 (16 * i + m) = mI ρ 1309 (16 * r + m)) (hw : w < 2147483648) {Q : Int64 → Mem → Prop} (q : Q (cva ρ d r (outr (selW 0 rt f c) (fun k w => nth (isColW 0 ρ k) (mc k) 0 w) n 0 w)) (mg κ ρ1)) : X_X5_oneCell_35 G Q 13 (nI f) (nI i) (nI w) (nI f) (mg κ ρ1) := by
  have hL := hG.1
  have h12 := hS.le
  have h1 := hS.s2
  have hT := hG.s h1
  have hK := hC.ss h1
  have e0 : outr (selW 0 rt f c) (fun k w => nth (isColW 0 ρ k) (mc k) 0 w) n 0 w = outr (selW 0 rt f c) (fun k w => nth (isCol ρ k) (mc k - ownFrom mc ρ k) (ownFrom mc ρ k) w) (n - f) f w := by
    rw [outr_cg n 0 w (fun k w _ b => nth_own hS (by omega) (by decide))]
    have e : n = (n - f) + f := by omega
    conv => lhs; rw [e]
    rw [outr_skip f 0 (fun k _ hk => ?_), Nat.zero_add]
    unfold selW
    rw [if_pos rfl]
    have := hS.rt_lt k (by omega)
    exact decide_eq_false (by omega)
  rw [e0] at q
  unfold X_X5_oneCell_35
  refine Lw.nat n (fun i y => ∃ w', w' ≤ w ∧ y = (nI w', nI i, mg κ ρ1) ∧ outr (selW 0 rt f c) (fun k w => nth (isCol ρ k) (mc k - ownFrom mc ρ k) (ownFrom mc ρ k) w) (n - i) i w' = outr (selW 0 rt f c) (fun k w => nth (isCol ρ k) (mc k - ownFrom mc ρ k) (ownFrom mc ρ k) w) (n - f) f w) ?_ f (by omega) _ ⟨w, Nat.le_refl _, rfl, rfl⟩
  rintro K' k y hk2 ⟨w', hw', rfl, e⟩ hk
  rw [← e] at q
  by_cases hlt : k < n
  · have hrt := hS.rt12 hlt
    have h16 := hS.m16 hlt
    rw [show n - k = (n - (k + 1)) + 1 by omega, outr_s] at e q
    simp (disch := omega) only [X_X5_oneCell_35_s, X_X5_oneCell_120, X_X5_oneCell_108, mI_c, mR_c, hL.1, hC.1, hS.r13, lT, lF, tT, tF, eF, pF, zT, m1F, vT, cI, true_and, and_true, true_implies, false_implies, not_false_eq_true, not_true_eq_false, forall_eq, implies_true, hT.1, hS.nC, nI_1]
    refine c_rootOf1 hG hC hS hlt ⟨fun er => ?_, fun er => ?_⟩
    · have er' : rt k = f := (eI (by omega) (by omega)).mp er
      have hs : selW 0 rt f c k = true := by unfold selW; rw [if_pos rfl]; exact decide_eq_true er'
      rw [hs, if_pos rfl] at e q
      refine c_ownColumn hG hC hS hlt (by omega) ?_
      generalize ex : nth (isCol ρ k) (mc k - ownFrom mc ρ k) (ownFrom mc ρ k) w' = X at e q
      cases X with
      | inl m =>
        have hm16 := nth_inl _ _ _ _ ex
        have hle := ownFrom_le hS hlt
        refine brF (mI1 (by omega)) ?_
        simp (disch := omega) only [mI_c, mR_c, hL.1, hL.2.1, hL.2.2, hC.1, hC.2.1, hC.2.2.1, hS.r13, lT, lF, tT, tF, eF, pF, zT, m1F, vT, cI, true_and, and_true, true_implies, false_implies, not_false_eq_true, not_true_eq_false, forall_eq, implies_true, hT.1, w3]
        have q : Q (if isa (par ρ) d k = true then (mI ρ 1309 (16 * r + m)).toInt64 else -4294967296) (mg κ ρ1) := q
        refine c_isOf' hG hC hS hd (by omega) (fun e => br1 ?_) (fun e => br0 ?_)
        · rw [if_pos e, ← w5 m (by omega)] at q
          exact c_get hL hC hi (by omega) q
        · rw [if_neg (by rw [e]; decide)] at q
          exact q
      | inr l =>
        have hl := nth_inr _ _ _ _ ex
        refine brT rfl (c_ownColumns hG hC hS hlt ?_)
        rw [show nI w' - nI (cnp (isCol ρ k) (mc k - ownFrom mc ρ k) (ownFrom mc ρ k)) = nI l by rw [pk_sub (by omega)]; congr 1; omega]
        exact hk _ hlt ⟨l, by omega, rfl, e⟩
    · have hs : selW 0 rt f c k = false := by unfold selW; rw [if_pos rfl]; exact decide_eq_false (fun h => er (by rw [h]))
      rw [hs, if_neg (by decide)] at e
      exact hk _ hlt ⟨w', hw', rfl, e⟩
  · obtain rfl : k = n := by omega
    rw [Nat.sub_self] at q
    simp (disch := omega) only [X_X5_oneCell_35_s, mI_c, mR_c, hL.1, hC.1, hS.r13, lT, lF, tT, tF, eF, pF, zT, m1F, vT, cI, true_and, and_true, true_implies, false_implies, not_false_eq_true, not_true_eq_false, forall_eq, implies_true, hT.1, hS.nC]
    exact q
end CELL2
