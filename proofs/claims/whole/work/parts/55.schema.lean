/-! the schema: leaves of both sides -/
theorem narb1 : vp_nar .boolean (1 : Int32) = 1 := rfl
theorem narb0 : vp_nar .boolean (0 : Int32) = 0 := rfl
section SCH
variable {G : Lay} {nn sc n r0 : Nat} {mc rt hc K N us : Nat → Nat} {κ ρ κ1 ρ1 : Mem}
theorem RelS.s2 (h : RelS sc n mc rt hc κ ρ) : sc = 14 ∨ sc = 275 := h.1
theorem RelS.r13 (h : RelS sc n mc rt hc κ ρ) : mR κ 13 0 = sc := h.2.1
theorem RelS.nC (h : RelS sc n mc rt hc κ ρ) : mI κ sc 0 = nI n := h.2.2.2.1
theorem RelS.nM (h : RelS sc n mc rt hc κ ρ) : mI ρ 1282 2 = nI n := h.2.2.2.2.1
theorem RelS.le (h : RelS sc n mc rt hc κ ρ) : n ≤ 12 := h.2.2.2.2.2.1
theorem RelS.cls (h : RelS sc n mc rt hc κ ρ) {c : Nat} (hc' : c < n) : ClsR sc mc rt hc κ ρ c := h.2.2.2.2.2.2.1 c hc'
theorem RelS.hei (h : RelS sc n mc rt hc κ ρ) {c : Nat} (hc' : c < n) : HeiR mc rt ρ c := h.2.2.2.2.2.2.2.1 c hc'
theorem RelS.mem (h : RelS sc n mc rt hc κ ρ) {c m : Nat} (hc' : c < n) (hm : m < mc c) : MemR sc κ ρ c m := h.2.2.2.2.2.2.2.2.1 c hc' m hm
theorem RelS.mw (h : RelS sc n mc rt hc κ ρ) {c m : Nat} (hc' : c < n) (hm : m < mc c) : MemW n mc ρ c m := h.2.2.2.2.2.2.2.2.2.1 c hc' m hm
theorem RelS.hok (h : RelS sc n mc rt hc κ ρ) {c m : Nat} (hc' : c < n) (hm : m < hc c) : HokR sc mc κ ρ c m := h.2.2.2.2.2.2.2.2.2.2 c hc' m hm
theorem RelS.m16 (h : RelS sc n mc rt hc κ ρ) {c : Nat} (hc' : c < n) : mc c ≤ 16 := (h.cls hc').2.2.2.2.2.1
theorem RelS.rt12 (h : RelS sc n mc rt hc κ ρ) {c : Nat} (hc' : c < n) : rt c < n := by have := h.rt_lt c hc'; omega
/-- no class -/
def noC (n : Nat) (x : Int32) : Prop := x < 0 ∨ ∃ c, n ≤ c ∧ c < 2147483648 ∧ x = nI c
theorem clsCase (n : Nat) (x : Int32) : (∃ c, c < n ∧ x = nI c) ∨ noC n x := by
  rcases iI x with hx | ⟨u, hu, rfl⟩
  · exact Or.inr (Or.inl hx)
  · by_cases h : u < n
    · exact Or.inl ⟨u, h, rfl⟩
    · exact Or.inr (Or.inr ⟨u, by omega, hu, rfl⟩)
theorem noC_m1 (n : Nat) : noC n (-1) := Or.inl m1_neg
theorem c_kindAt1 (hG : Ly G) (hC : StC κ) (hS : RelS sc n mc rt hc κ ρ) {Q : Nat → Mem → Prop} {c : Nat} (h : c < n) (k : Q (sc + 4 + 5 * c) (mg κ ρ1)) : X_X6_kindAt G Q sc (nI c) (mg κ ρ1) := by
  have h1 := hS.s2
  have h2 := hS.le
  have hT := hG.s h1
  have hK := hC.ss h1
  simp (disch := omega) only [X_X6_kindAt_22, X_X6_kindAt_12, X_X6_kindAt_0, X_X6_kindAt, lT, lF, tT, tF, eF, pF, zT, m1F, vT, cI, true_and, and_true, true_implies, false_implies, not_false_eq_true, not_true_eq_false, forall_eq, implies_true, mI_c, mR_c, hS.nC, hT.1, hT.2.1, hK.1, hK.2.1]
  exact k
theorem c_kindAt0 (hG : Ly G) (hC : StC κ) (hS : RelS sc n mc rt hc κ ρ) {Q : Nat → Mem → Prop} {x : Int32} (h : noC n x) (k : Q 0 (mg κ ρ1)) : X_X6_kindAt G Q sc x (mg κ ρ1) := by
  have h1 := hS.s2
  have h2 := hS.le
  have hT := hG.s h1
  have hK := hC.ss h1
  rcases h with hx | ⟨c, hc1, hc2, rfl⟩
  · simp (disch := omega) only [X_X6_kindAt_22, X_X6_kindAt_12, X_X6_kindAt_0, X_X6_kindAt, lT, lF, tT, tF, eF, pF, zT, m1F, vT, cI, true_and, and_true, true_implies, false_implies, not_false_eq_true, not_true_eq_false, forall_eq, implies_true, hx]
    exact k
  · simp (disch := omega) only [X_X6_kindAt_22, X_X6_kindAt_12, X_X6_kindAt_0, X_X6_kindAt, lT, lF, tT, tF, eF, pF, zT, m1F, vT, cI, true_and, and_true, true_implies, false_implies, not_false_eq_true, not_true_eq_false, forall_eq, implies_true, mI_c, mR_c, hS.nC, hT.1, hK.1]
    exact k
theorem c_rootOf1 (hG : Ly G) (hC : StC κ) (hS : RelS sc n mc rt hc κ ρ) {Q : Int32 → Mem → Prop} {c : Nat} (h : c < n) (k : Q (nI (rt c)) (mg κ ρ1)) : X_X6_rootOf G Q sc (nI c) (mg κ ρ1) := by
  have h1 := hS.s2
  have h2 := hS.le
  have hT := hG.s h1
  have hK := hC.ss h1
  simp (disch := omega) only [X_X6_rootOf_25, X_X6_rootOf_12, X_X6_rootOf_0, X_X6_rootOf, lT, lF, tT, tF, eF, pF, zT, m1F, vT, cI, true_and, and_true, true_implies, false_implies, not_false_eq_true, not_true_eq_false, forall_eq, implies_true, mI_c, mR_c, hS.nC, hT.1, hT.2.1, hK.1, hK.2.1, (hS.cls h).2.1]
  exact k
theorem c_rootOf0 (hG : Ly G) (hC : StC κ) (hS : RelS sc n mc rt hc κ ρ) {Q : Int32 → Mem → Prop} {x : Int32} (h : noC n x) (k : Q (-1) (mg κ ρ1)) : X_X6_rootOf G Q sc x (mg κ ρ1) := by
  have h1 := hS.s2
  have h2 := hS.le
  have hT := hG.s h1
  have hK := hC.ss h1
  rcases h with hx | ⟨c, hc1, hc2, rfl⟩
  · simp (disch := omega) only [X_X6_rootOf_25, X_X6_rootOf_12, X_X6_rootOf_0, X_X6_rootOf, lT, lF, tT, tF, eF, pF, zT, m1F, vT, cI, true_and, and_true, true_implies, false_implies, not_false_eq_true, not_true_eq_false, forall_eq, implies_true, hx]
    exact k
  · simp (disch := omega) only [X_X6_rootOf_25, X_X6_rootOf_12, X_X6_rootOf_0, X_X6_rootOf, lT, lF, tT, tF, eF, pF, zT, m1F, vT, cI, true_and, and_true, true_implies, false_implies, not_false_eq_true, not_true_eq_false, forall_eq, implies_true, mI_c, mR_c, hS.nC, hT.1, hK.1]
    exact k
theorem c_memberAt1 (hG : Ly G) (hC : StC κ) (hS : RelS sc n mc rt hc κ ρ) {Q : Nat → Mem → Prop} {c m : Nat} (h : c < n) (h' : m < mc c) (k : Q (mR κ (sc + 5 + 5 * c) m) (mg κ ρ1)) : X_X6_memberAt G Q sc (nI c) (nI m) (mg κ ρ1) := by
  have h1 := hS.s2
  have h2 := hS.le
  have h3 := hS.m16 h
  have hT := hG.s h1
  have hK := hC.ss h1
  simp (disch := omega) only [X_X6_memberAt_32, X_X6_memberAt_22, X_X6_memberAt_0, X_X6_memberAt, lT, lF, tT, tF, eF, pF, zT, m1F, vT, cI, true_and, and_true, true_implies, false_implies, not_false_eq_true, not_true_eq_false, forall_eq, implies_true, hT.1]
  refine c_kindAt1 hG hC hS h (brF (by omega) ?_)
  simp (disch := omega) only [lT, lF, tT, tF, eF, pF, zT, m1F, vT, cI, true_and, and_true, true_implies, false_implies, not_false_eq_true, not_true_eq_false, forall_eq, implies_true, mI_c, mR_c, hT.1, hT.2.1, hK.1, hK.2.1, (hS.cls h).2.2.2.1]
  exact k
theorem c_memberAt0 (hG : Ly G) (hC : StC κ) (hS : RelS sc n mc rt hc κ ρ) {Q : Nat → Mem → Prop} {x y : Int32} (h : noC n x ∨ ∃ c, c < n ∧ x = nI c ∧ noC (mc c) y) (k : Q 0 (mg κ ρ1)) : X_X6_memberAt G Q sc x y (mg κ ρ1) := by
  have h1 := hS.s2
  have h2 := hS.le
  have hT := hG.s h1
  have hK := hC.ss h1
  simp (disch := omega) only [X_X6_memberAt_32, X_X6_memberAt_22, X_X6_memberAt_0, X_X6_memberAt, lT, lF, tT, tF, eF, pF, zT, m1F, vT, cI, true_and, and_true, true_implies, false_implies, not_false_eq_true, not_true_eq_false, forall_eq, implies_true, hT.1]
  rcases h with h | ⟨c, h, rfl, h'⟩
  · exact c_kindAt0 hG hC hS h (brT rfl k)
  · have h3 := hS.m16 h
    refine c_kindAt1 hG hC hS h (brF (by omega) ?_)
    rcases h' with h' | ⟨m, h5, h6, rfl⟩
    · exact brT h' k
    · simp (disch := omega) only [lT, lF, tT, tF, eF, pF, zT, m1F, vT, cI, true_and, and_true, true_implies, false_implies, not_false_eq_true, not_true_eq_false, forall_eq, implies_true, mI_c, mR_c, hT.1, hT.2.1, hK.1, hK.2.1, (hS.cls h).2.2.2.1]
      exact k
theorem c_isOf' (hG : Ly G) (hC : StC κ) (hS : RelS sc n mc rt hc κ ρ) {Q : Int32 → Mem → Prop} {c d : Nat} (h : c < n) (hd : d < 2147483648) (k1 : isa (par ρ) c d = true → Q 1 (mg κ ρ1)) (k0 : isa (par ρ) c d = false → Q 0 (mg κ ρ1)) : X_X6_isOf G Q sc (nI c) (nI d) (mg κ ρ1) :=
  c_isOf hS.s2 (hG.s hS.s2) (hC.ss hS.s2) hS.nC hS.le (fun q hq => (hS.cls hq).1) hS.par h hd k1 k0
/-! the reference's -/
theorem m_isClass1 (hM : LyM G) (hm : StM ρ) (hn : mI ρ 1282 2 = nI n) (hn2 : n ≤ 12) {Q : Int32 → Mem → Prop} {c : Nat} (h : c < n) (k : Q 1 (mg κ1 ρ)) : X_X12_isClass G Q 1282 (nI c) (mg κ1 ρ) := by
  simp (disch := omega) only [X_X12_isClass_17, X_X12_isClass_16, X_X12_isClass_0, X_X12_isClass, lT, lF, tT, tF, eF, pF, zT, m1F, vT, cI, true_and, and_true, true_implies, false_implies, not_false_eq_true, not_true_eq_false, forall_eq, implies_true, mI_m, hM.1, hn, bzT1]
  exact k
theorem m_isClass0 (hM : LyM G) (hm : StM ρ) (hn : mI ρ 1282 2 = nI n) (hn2 : n ≤ 12) {Q : Int32 → Mem → Prop} {x : Int32} (h : noC n x) (k : Q 0 (mg κ1 ρ)) : X_X12_isClass G Q 1282 x (mg κ1 ρ) := by
  rcases h with hx | ⟨c, hc1, hc2, rfl⟩
  · simp (disch := omega) only [X_X12_isClass_17, X_X12_isClass_16, X_X12_isClass_0, X_X12_isClass, lT, lF, tT, tF, eF, pF, zT, m1F, vT, cI, true_and, and_true, true_implies, false_implies, not_false_eq_true, not_true_eq_false, forall_eq, implies_true, hx, bzT0]
    exact k
  · simp (disch := omega) only [X_X12_isClass_17, X_X12_isClass_16, X_X12_isClass_0, X_X12_isClass, lT, lF, tT, tF, eF, pF, zT, m1F, vT, cI, true_and, and_true, true_implies, false_implies, not_false_eq_true, not_true_eq_false, forall_eq, implies_true, mI_m, hM.1, hn, bzT0]
    exact k
theorem m_rootOf (hM : LyM G) (hm : StM ρ) (hS : RelS sc n mc rt hc κ ρ) {Q : Int32 → Mem → Prop} {c : Nat} (h : c < n) (k : Q (nI (rt c)) (mg κ1 ρ)) : X_X12_rootOf G Q 1282 (nI c) (mg κ1 ρ) := by
  have h2 := hS.le
  unfold X_X12_rootOf X_X12_rootOf_0 X_X12_rootOf_2
  refine Lw.by (fun x => ∃ q, q < n ∧ x = (nI q, mg κ1 ρ) ∧ rt q = rt c) (fun x => x.1.toNatClampNeg) ?_ _ ⟨c, h, rfl, rfl⟩
  rintro K' x ⟨q, hq, rfl, hr⟩ hk
  simp (disch := omega) only [X_X12_rootOf_2_s, lT, lF, tT, tF, eF, pF, zT, m1F, vT, cI, true_and, and_true, true_implies, false_implies, not_false_eq_true, not_true_eq_false, forall_eq, implies_true, mI_m, mR_m, hM.1, hM.2, hm.1, hm.2]
  rcases hS.hei hq with ⟨e1, e2⟩ | ⟨p, e1, e2, e3, -⟩
  · rw [e1]
    refine brT m1_neg ?_
    rw [← e2, hr]
    exact k
  · rw [e2]
    refine brF (pI (by omega)) (hk _ ⟨p, by omega, rfl, by omega⟩ ?_)
    show (nI p).toNatClampNeg < (nI q).toNatClampNeg
    rw [cI (by omega), cI (by omega)]
    exact e1
theorem m_isA0 (hM : LyM G) (hm : StM ρ) (hp : ParW (par ρ) n) (h12 : n ≤ 12) {Q : Int32 → Mem → Prop} {c d : Nat} (h : c < n) (hd : d < 2147483648) (k1 : isa (par ρ) c d = true → Q 1 (mg κ1 ρ)) (k0 : isa (par ρ) c d = false → Q 0 (mg κ1 ρ)) : X_X12_isA G Q 1282 0 (nI c) (nI d) (mg κ1 ρ) := by
  unfold X_X12_isA X_X12_isA_0 X_X12_isA_3
  refine Lw.by (fun x => (∃ q, q < n ∧ x = (nI q, mg κ1 ρ) ∧ isa (par ρ) q d = isa (par ρ) c d) ∨ (x = (-1, mg κ1 ρ) ∧ isa (par ρ) c d = false)) (fun x => if x.1 < 0 then 0 else x.1.toNatClampNeg + 1) ?_ _ (Or.inl ⟨c, h, rfl, rfl⟩)
  rintro K' x (⟨q, hq, rfl, hr⟩ | ⟨rfl, hr⟩) hk
  · simp (disch := omega) only [X_X12_isA_3_s, X_X12_isA_28, X_X12_isA_39, lT, lF, tT, tF, eF, pF, zT, m1F, vT, cI, true_and, and_true, true_implies, false_implies, not_false_eq_true, not_true_eq_false, forall_eq, implies_true, mI_m, mR_m, hM.1, hM.2, hm.1, hm.2, bzT1, bzT0, n0, nI_add, Nat.zero_add]
    refine ⟨fun e => ?_, fun e => ?_⟩
    · refine ⟨fun _ => k1 ?_, fun e2 => absurd e e2⟩
      rw [← hr, (eI (by omega) hd).mp e]
      exact isa_self _ _
    · have hne : q ≠ d := fun z => e (by rw [z])
      rcases hp q hq with e1 | ⟨p, h5, e1⟩
      · refine hk _ (Or.inr ⟨by rw [show mI ρ 1285 q = -1 from e1], by rw [← hr]; exact isa_root e1 hne⟩) ?_
        show (if mI ρ 1285 q < 0 then 0 else _) < (if nI q < 0 then 0 else _)
        rw [show mI ρ 1285 q = -1 from e1, if_pos m1_neg, if_neg (pI (by omega))]
        omega
      · refine hk _ (Or.inl ⟨p, by omega, by rw [show mI ρ 1285 q = nI p from e1], by rw [← hr]; exact (isa_up hp h12 hq h5 e1 hne).symm⟩) ?_
        show (if mI ρ 1285 q < 0 then 0 else (mI ρ 1285 q).toNatClampNeg + 1) < (if nI q < 0 then 0 else (nI q).toNatClampNeg + 1)
        rw [show mI ρ 1285 q = nI p from e1, if_neg (pI (by omega)), if_neg (pI (by omega)), cI (by omega), cI (by omega)]
        omega
  · have e : ¬ (-1 : Int32) = nI d := fun e => mI1 hd e.symm
    simp (disch := omega) only [X_X12_isA_3_s, X_X12_isA_28, X_X12_isA_39, lT, lF, tT, tF, eF, pF, zT, m1F, vT, cI, true_and, and_true, true_implies, false_implies, not_false_eq_true, not_true_eq_false, forall_eq, implies_true, m10, bzT1, bzT0, e]
    exact k0 hr
end SCH
