/-! names: searches -/
theorem fst_lt {P : Nat → Prop} : ∀ {n : Nat}, (∃ c, c < n ∧ P c) → ∃ c, c < n ∧ P c ∧ ∀ j, j < c → ¬ P j := by
  intro n
  induction n with
  | zero => rintro ⟨c, h, -⟩; omega
  | succ n ih =>
    rintro ⟨c, h1, h2⟩
    by_cases h : ∃ c, c < n ∧ P c
    · obtain ⟨d, a, b, e⟩ := ih h
      exact ⟨d, by omega, b, e⟩
    · refine ⟨c, h1, h2, fun j hj hp => h ⟨j, by omega, hp⟩⟩
section NAMES
variable {G : Lay} {κ κ' ρ ρ' κ1 ρ1 : Mem} {s n c x m w a : Nat} {Q : Int32 → Mem → Prop} {v : Int64}
theorem c_classNamed1 (hG : Ly G) (hC : StC κ) (hs : s = 14 ∨ s = 275) (hn : mI κ s 0 = nI n) (h12 : n ≤ 12) (hc : c < n) (e : mJ κ (s + 4 + 5 * c) 0 = v) (hf : ∀ j, j < c → mJ κ (s + 4 + 5 * j) 0 ≠ v) (q : Q (nI c) (mg κ ρ1)) : X_X6_classNamed G Q s v (mg κ ρ1) := by
  have hT := hG.s hs
  have hK := hC.ss hs
  simp only [X_X6_classNamed, X_X6_classNamed_0, X_X6_classNamed_2]
  refine Lw.at c (fun K i hi hk => ?_) (fun K => ?_)
  · have := hf i hi
    simp (disch := omega) only [X_X6_classNamed_2_s, lT, lF, tT, tF, eF, pF, zT, m1F, vT, cI, true_and, and_true, true_implies, false_implies, not_false_eq_true, not_true_eq_false, forall_eq, implies_true, mI_c, mR_c, mJ_c, hn, hT.1, hT.2.1, hK.1, hK.2.1, lg_cmp_eq, this, nI_1]
    exact hk
  · simp (disch := omega) only [X_X6_classNamed_2_s, lT, lF, tT, tF, eF, pF, zT, m1F, vT, cI, true_and, and_true, true_implies, false_implies, not_false_eq_true, not_true_eq_false, forall_eq, implies_true, mI_c, mR_c, mJ_c, hn, hT.1, hT.2.1, hK.1, hK.2.1, lg_cmp_eq, e]
    exact q
theorem c_classNamed0 (hG : Ly G) (hC : StC κ) (hs : s = 14 ∨ s = 275) (hn : mI κ s 0 = nI n) (h12 : n ≤ 12) (hf : ∀ j, j < n → mJ κ (s + 4 + 5 * j) 0 ≠ v) (q : Q (-1) (mg κ ρ1)) : X_X6_classNamed G Q s v (mg κ ρ1) := by
  have hT := hG.s hs
  have hK := hC.ss hs
  simp only [X_X6_classNamed, X_X6_classNamed_0, X_X6_classNamed_2]
  refine Lw.at n (fun K i hi hk => ?_) (fun K => ?_)
  · have := hf i hi
    simp (disch := omega) only [X_X6_classNamed_2_s, lT, lF, tT, tF, eF, pF, zT, m1F, vT, cI, true_and, and_true, true_implies, false_implies, not_false_eq_true, not_true_eq_false, forall_eq, implies_true, mI_c, mR_c, mJ_c, hn, hT.1, hT.2.1, hK.1, hK.2.1, lg_cmp_eq, this, nI_1]
    exact hk
  · simp (disch := omega) only [X_X6_classNamed_2_s, lT, lF, tT, tF, eF, pF, zT, m1F, vT, cI, true_and, and_true, true_implies, false_implies, not_false_eq_true, not_true_eq_false, forall_eq, implies_true, mI_c, hn, hT.1]
    exact q
theorem m_classNamed1 (hM : LyM G) (hm : StM ρ) {b : Nat} (hb : b ≤ 13) (h12 : n ≤ 12) (hc : c < n) (e : mJ ρ 1284 (b + c) = v) (hf : ∀ j, j < c → mJ ρ 1284 (b + j) ≠ v) (q : Q (nI c) (mg κ1 ρ)) : X_X12_classNamed G Q 1282 (nI b) (nI n) v (mg κ1 ρ) := by
  simp only [X_X12_classNamed, X_X12_classNamed_0, X_X12_classNamed_3]
  refine Lw.at c (fun K i hi hk => ?_) (fun K => ?_)
  · have := hf i hi
    simp (disch := omega) only [X_X12_classNamed_3_s, mI_m, mR_m, mJ_m, sI_m, sJ_m, hM.1, hM.2, hm.1, hm.2, lT, lF, tT, tF, eF, pF, zT, m1F, vT, cI, true_and, and_true, true_implies, false_implies, not_false_eq_true, not_true_eq_false, forall_eq, implies_true, nI_add, lg_cmp_eq, this, nI_1]
    exact hk
  · simp (disch := omega) only [X_X12_classNamed_3_s, mI_m, mR_m, mJ_m, sI_m, sJ_m, hM.1, hM.2, hm.1, hm.2, lT, lF, tT, tF, eF, pF, zT, m1F, vT, cI, true_and, and_true, true_implies, false_implies, not_false_eq_true, not_true_eq_false, forall_eq, implies_true, nI_add, lg_cmp_eq, e]
    exact q
theorem m_classNamed0 (hM : LyM G) (hm : StM ρ) {b : Nat} (hb : b ≤ 13) (h12 : n ≤ 12) (hf : ∀ j, j < n → mJ ρ 1284 (b + j) ≠ v) (q : Q (-1) (mg κ1 ρ)) : X_X12_classNamed G Q 1282 (nI b) (nI n) v (mg κ1 ρ) := by
  simp only [X_X12_classNamed, X_X12_classNamed_0, X_X12_classNamed_3]
  refine Lw.at n (fun K i hi hk => ?_) (fun K => ?_)
  · have := hf i hi
    simp (disch := omega) only [X_X12_classNamed_3_s, mI_m, mR_m, mJ_m, sI_m, sJ_m, hM.1, hM.2, hm.1, hm.2, lT, lF, tT, tF, eF, pF, zT, m1F, vT, cI, true_and, and_true, true_implies, false_implies, not_false_eq_true, not_true_eq_false, forall_eq, implies_true, nI_add, lg_cmp_eq, this, nI_1]
    exact hk
  · simp (disch := omega) only [X_X12_classNamed_3_s, lT, lF, tT, tF, eF, pF, zT, m1F, vT, cI, true_and, and_true, true_implies, false_implies, not_false_eq_true, not_true_eq_false, forall_eq, implies_true]
    exact q
theorem c_memberNamed1 (hG : Ly G) (hC : StC κ) (hs : s = 14 ∨ s = 275) (hc : c < 12) (hn : mI κ (s + 4 + 5 * c) 4 = nI n) (h16 : n ≤ 16) (hr : ∀ j, j < n → s + 64 ≤ mR κ (s + 5 + 5 * c) j ∧ mR κ (s + 5 + 5 * c) j < s + 256) (hm : m < n) (e : mJ κ (mR κ (s + 5 + 5 * c) m) 0 = v) (hf : ∀ j, j < m → mJ κ (mR κ (s + 5 + 5 * c) j) 0 ≠ v) (q : Q (nI m) (mg κ ρ1)) : X_X1_memberNamed G Q (s + 4 + 5 * c) v (mg κ ρ1) := by
  have hT := hG.s hs
  have hK := hC.ss hs
  have ht : ∀ j, j < n → gT G (mR κ (s + 5 + 5 * c) j) = 3 := fun j hj => by
    have := hT.2.2 (mR κ (s + 5 + 5 * c) j - (s + 64)) (by have := hr j hj; omega)
    rw [show s + 64 + (mR κ (s + 5 + 5 * c) j - (s + 64)) = mR κ (s + 5 + 5 * c) j by have := hr j hj; omega] at this
    exact this
  simp only [X_X1_memberNamed, X_X1_memberNamed_0, X_X1_memberNamed_2]
  refine Lw.at m (fun K i hi hk => ?_) (fun K => ?_)
  · have h1 := hf i hi
    have h2 := ht i (by omega)
    have h3 := hr i (by omega)
    simp (disch := omega) only [X_X1_memberNamed_2_s, lT, lF, tT, tF, eF, pF, zT, m1F, vT, cI, true_and, and_true, true_implies, false_implies, not_false_eq_true, not_true_eq_false, forall_eq, implies_true, mI_c, mR_c, mJ_c, hn, hT.1, hT.2.1, hK.1, hK.2.1, lg_cmp_eq, h1, h2, nI_1]
    exact hk
  · have h2 := ht m hm
    have h3 := hr m hm
    simp (disch := omega) only [X_X1_memberNamed_2_s, lT, lF, tT, tF, eF, pF, zT, m1F, vT, cI, true_and, and_true, true_implies, false_implies, not_false_eq_true, not_true_eq_false, forall_eq, implies_true, mI_c, mR_c, mJ_c, hn, hT.1, hT.2.1, hK.1, hK.2.1, lg_cmp_eq, e, h2]
    exact q
theorem c_memberNamed0 (hG : Ly G) (hC : StC κ) (hs : s = 14 ∨ s = 275) (hc : c < 12) (hn : mI κ (s + 4 + 5 * c) 4 = nI n) (h16 : n ≤ 16) (hr : ∀ j, j < n → s + 64 ≤ mR κ (s + 5 + 5 * c) j ∧ mR κ (s + 5 + 5 * c) j < s + 256) (hf : ∀ j, j < n → mJ κ (mR κ (s + 5 + 5 * c) j) 0 ≠ v) (q : Q (-1) (mg κ ρ1)) : X_X1_memberNamed G Q (s + 4 + 5 * c) v (mg κ ρ1) := by
  have hT := hG.s hs
  have hK := hC.ss hs
  have ht : ∀ j, j < n → gT G (mR κ (s + 5 + 5 * c) j) = 3 := fun j hj => by
    have := hT.2.2 (mR κ (s + 5 + 5 * c) j - (s + 64)) (by have := hr j hj; omega)
    rw [show s + 64 + (mR κ (s + 5 + 5 * c) j - (s + 64)) = mR κ (s + 5 + 5 * c) j by have := hr j hj; omega] at this
    exact this
  simp only [X_X1_memberNamed, X_X1_memberNamed_0, X_X1_memberNamed_2]
  refine Lw.at n (fun K i hi hk => ?_) (fun K => ?_)
  · have h1 := hf i hi
    have h2 := ht i (by omega)
    have h3 := hr i (by omega)
    simp (disch := omega) only [X_X1_memberNamed_2_s, lT, lF, tT, tF, eF, pF, zT, m1F, vT, cI, true_and, and_true, true_implies, false_implies, not_false_eq_true, not_true_eq_false, forall_eq, implies_true, mI_c, mR_c, mJ_c, hn, hT.1, hT.2.1, hK.1, hK.2.1, lg_cmp_eq, h1, h2, nI_1]
    exact hk
  · simp (disch := omega) only [X_X1_memberNamed_2_s, lT, lF, tT, tF, eF, pF, zT, m1F, vT, cI, true_and, and_true, true_implies, false_implies, not_false_eq_true, not_true_eq_false, forall_eq, implies_true, mI_c, hn, hT.1, hT.2.1]
    exact q
theorem m_memberNamed1 (hM : LyM G) (hm : StM ρ) {b : Nat} (hb : b < 26) (hn : mI ρ 1287 b = nI n) (h16 : n ≤ 16) (hc : c < n) (e : mJ ρ 1289 (16 * b + c) = v) (hf : ∀ j, j < c → mJ ρ 1289 (16 * b + j) ≠ v) (q : Q (nI c) (mg κ1 ρ)) : X_X12_memberNamed G Q 1282 (nI b) v (mg κ1 ρ) := by
  have n16 : (16 : Int32) = nI 16 := rfl
  simp only [X_X12_memberNamed, X_X12_memberNamed_0, X_X12_memberNamed_3]
  refine Lw.at c (fun K i hi hk => ?_) (fun K => ?_)
  · have := hf i hi
    simp (disch := omega) only [X_X12_memberNamed_3_s, mI_m, mR_m, mJ_m, sI_m, sJ_m, hM.1, hM.2, hm.1, hm.2, lT, lF, tT, tF, eF, pF, zT, m1F, vT, cI, true_and, and_true, true_implies, false_implies, not_false_eq_true, not_true_eq_false, forall_eq, implies_true, n16, hn, nI_add, pk_mul, lg_cmp_eq, this, nI_1]
    exact hk
  · simp (disch := omega) only [X_X12_memberNamed_3_s, mI_m, mR_m, mJ_m, sI_m, sJ_m, hM.1, hM.2, hm.1, hm.2, lT, lF, tT, tF, eF, pF, zT, m1F, vT, cI, true_and, and_true, true_implies, false_implies, not_false_eq_true, not_true_eq_false, forall_eq, implies_true, n16, hn, nI_add, pk_mul, lg_cmp_eq, e]
    exact q
theorem m_memberNamed0 (hM : LyM G) (hm : StM ρ) {b : Nat} (hb : b < 26) (hn : mI ρ 1287 b = nI n) (h16 : n ≤ 16) (hf : ∀ j, j < n → mJ ρ 1289 (16 * b + j) ≠ v) (q : Q (-1) (mg κ1 ρ)) : X_X12_memberNamed G Q 1282 (nI b) v (mg κ1 ρ) := by
  have n16 : (16 : Int32) = nI 16 := rfl
  simp only [X_X12_memberNamed, X_X12_memberNamed_0, X_X12_memberNamed_3]
  refine Lw.at n (fun K i hi hk => ?_) (fun K => ?_)
  · have := hf i hi
    simp (disch := omega) only [X_X12_memberNamed_3_s, mI_m, mR_m, mJ_m, sI_m, sJ_m, hM.1, hM.2, hm.1, hm.2, lT, lF, tT, tF, eF, pF, zT, m1F, vT, cI, true_and, and_true, true_implies, false_implies, not_false_eq_true, not_true_eq_false, forall_eq, implies_true, n16, hn, nI_add, pk_mul, lg_cmp_eq, this, nI_1]
    exact hk
  · simp (disch := omega) only [X_X12_memberNamed_3_s, mI_m, mR_m, mJ_m, sI_m, sJ_m, hM.1, hM.2, hm.1, hm.2, lT, lF, tT, tF, eF, pF, zT, m1F, vT, cI, true_and, and_true, true_implies, false_implies, not_false_eq_true, not_true_eq_false, forall_eq, implies_true, hn]
    exact q
theorem c_nameNumber1 (hG : Ly G) (hC : StC κ) (hs : s = 14 ∨ s = 275) (hx : s + 64 ≤ x ∧ x < s + 256) (h5 : mI κ x 5 = nI w) (h4 : mI κ x 4 = nI a) (ha : a + w ≤ 1500) (hc : c < w) (e : mJ κ (s + 3) (a + c) = v) (hf : ∀ j, j < c → mJ κ (s + 3) (a + j) ≠ v) (q : Q (nI c) (mg κ ρ1)) : X_X6_nameNumber G Q s x v (mg κ ρ1) := by
  have hT := hG.s hs
  have hK := hC.ss hs
  have ht : gT G x = 3 := by
    have := hT.2.2 (x - (s + 64)) (by omega)
    rw [show s + 64 + (x - (s + 64)) = x by omega] at this
    exact this
  simp only [X_X6_nameNumber, X_X6_nameNumber_0, X_X6_nameNumber_3]
  refine Lw.at c (fun K i hi hk => ?_) (fun K => ?_)
  · have := hf i hi
    simp (disch := omega) only [X_X6_nameNumber_3_s, lT, lF, tT, tF, eF, pF, zT, m1F, vT, cI, true_and, and_true, true_implies, false_implies, not_false_eq_true, not_true_eq_false, forall_eq, implies_true, mI_c, mR_c, mJ_c, h5, h4, ht, hT.1, hT.2.1, hK.1, hK.2.1, nI_add, lg_cmp_eq, this, nI_1]
    exact hk
  · simp (disch := omega) only [X_X6_nameNumber_3_s, lT, lF, tT, tF, eF, pF, zT, m1F, vT, cI, true_and, and_true, true_implies, false_implies, not_false_eq_true, not_true_eq_false, forall_eq, implies_true, mI_c, mR_c, mJ_c, h5, h4, ht, hT.1, hT.2.1, hK.1, hK.2.1, nI_add, lg_cmp_eq, e]
    exact q
theorem c_nameNumber0 (hG : Ly G) (hC : StC κ) (hs : s = 14 ∨ s = 275) (hx : s + 64 ≤ x ∧ x < s + 256) (h5 : mI κ x 5 = nI w) (h4 : w = 0 ∨ mI κ x 4 = nI a) (ha : a + w ≤ 1500) (hf : ∀ j, j < w → mJ κ (s + 3) (a + j) ≠ v) (q : Q (-1) (mg κ ρ1)) : X_X6_nameNumber G Q s x v (mg κ ρ1) := by
  have hT := hG.s hs
  have hK := hC.ss hs
  have ht : gT G x = 3 := by
    have := hT.2.2 (x - (s + 64)) (by omega)
    rw [show s + 64 + (x - (s + 64)) = x by omega] at this
    exact this
  simp only [X_X6_nameNumber, X_X6_nameNumber_0, X_X6_nameNumber_3]
  refine Lw.at w (fun K i hi hk => ?_) (fun K => ?_)
  · have := hf i hi
    have h4 : mI κ x 4 = nI a := by
      rcases h4 with h4 | h4
      · omega
      · exact h4
    simp (disch := omega) only [X_X6_nameNumber_3_s, lT, lF, tT, tF, eF, pF, zT, m1F, vT, cI, true_and, and_true, true_implies, false_implies, not_false_eq_true, not_true_eq_false, forall_eq, implies_true, mI_c, mR_c, mJ_c, h5, h4, ht, hT.1, hT.2.1, hK.1, hK.2.1, nI_add, lg_cmp_eq, this, nI_1]
    exact hk
  · simp (disch := omega) only [X_X6_nameNumber_3_s, lT, lF, tT, tF, eF, pF, zT, m1F, vT, cI, true_and, and_true, true_implies, false_implies, not_false_eq_true, not_true_eq_false, forall_eq, implies_true, mI_c, h5, ht]
    exact q
end NAMES
