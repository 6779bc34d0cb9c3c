section RULES3
variable {G : Lay} {nn sc n r0 r1 w : Nat} {mc rt hc K N N1 us : Nat → Nat} {κ κ' κ0 ρ ρ' ρ0 κ1 ρ1 : Mem} {u k f : Nat}
theorem c_brokenN (hG : Ly G) (hC : StC κ) (hS : RelS sc n mc rt hc κ ρ) {c m : Nat} {x v : Int32} (hc1 : c < n) (hm1 : mc c ≤ m) (hm2 : m < 16) {Q : Int32 → Mem → Prop} (q : Q (-1) (mg κ ρ1)) : X_X5_brokenRule G Q 13 (nI c) x (nI m) v (mg κ ρ1) := by
  have hL := hG.1
  have hT2 := hG.s hS.s2
  have hs2 := hS.s2
  simp (disch := omega) only [X_X5_brokenRule, X_X5_brokenRule_0, mR_c, hL.1, hS.r13, hT2.1, true_and]
  exact c_memberAt0 hG hC hS (Or.inr ⟨c, hc1, rfl, Or.inr ⟨m, hm1, by omega, rfl⟩⟩) (brT rfl q)
theorem c_keepStep (hG : Ly G) (hC : StC κ) (hS : RelS sc n mc rt hc κ ρ) (hR : RelR N r0 κ ρ) (hY : RowsW n r0 mc rt K ρ) (hu : u < 4) (hk : k < 60) {c m : Nat} {x : Int32} (hc1 : c < n) (hf : rt c = f) (t4 : mI κ (537 + 184 * u + 3 * k) 4 = nI c) (t3 : mI κ (537 + 184 * u + 3 * k) 3 = x) {w : Int32} {p : Nat → Bool} (hp : ∀ m, m < 16 → (((w >>> (nI m &&& 31)) &&& (1 : Int32)) = 0) = (p m = false)) (hm : m < 16) (hr : m < mc c → p m = true → rul r0 rt ρ f x c m (mI κ (538 + 184 * u + 3 * k) m) = -1) {Q : Int32 → Mem → Prop} {K2 : Int32 × Mem → Prop} (hK : K2 (nI (m + 1), mg κ ρ1)) : X_X10_keepsRules_2_s G Q 1269 (537 + 184 * u + 3 * k) w K2 (nI m, mg κ ρ1) := by
  have hL := hG.1
  have h12 := hS.le
  have n16 : (16 : Int32) = nI 16 := rfl
  simp (disch := omega) only [X_X10_keepsRules_2_s, X_X10_keepsRules_56, n16, lT, lF, tT, tF, eF, pF, zT, m1F, vT, cI, true_and, and_true, true_implies, false_implies, not_false_eq_true, not_true_eq_false, forall_eq, implies_true, hp, nI_1]
  refine ⟨fun _ => hK, fun e => ?_⟩
  have ep : p m = true := by
    cases h : p m
    · exact absurd h e
    · rfl
  simp (disch := omega) only [mI_c, mR_c, mJ_c, sI_c, sJ_c, sR_c, hL.1, hL.2.1, hL.2.2, hC.1, hC.2.1, hC.2.2.1, lT, lF, tT, tF, eF, pF, zT, m1F, vT, cI, true_and, and_true, true_implies, false_implies, not_false_eq_true, not_true_eq_false, forall_eq, implies_true, t3, t4]
  by_cases h : m < mc c
  · exact c_brokenRule hG hC hS hR hY hc1 hf h (brT (hr h ep) hK)
  · exact c_brokenN hG hC hS hc1 (by omega) hm (brT rfl hK)
theorem c_keeps1 (hG : Ly G) (hC : StC κ) (hS : RelS sc n mc rt hc κ ρ) (hR : RelR N r0 κ ρ) (hY : RowsW n r0 mc rt K ρ) (hu : u < 4) (hk : k < 60) {c : Nat} {x : Int32} (hc1 : c < n) (hf : rt c = f) (t4 : mI κ (537 + 184 * u + 3 * k) 4 = nI c) (t3 : mI κ (537 + 184 * u + 3 * k) 3 = x) {w : Int32} {p : Nat → Bool} (hp : ∀ m, m < 16 → (((w >>> (nI m &&& 31)) &&& (1 : Int32)) = 0) = (p m = false)) (hr : ∀ m, m < mc c → p m = true → rul r0 rt ρ f x c m (mI κ (538 + 184 * u + 3 * k) m) = -1) {Q : Int32 → Mem → Prop} (q : Q 1 (mg κ ρ1)) : X_X10_keepsRules G Q 1269 (537 + 184 * u + 3 * k) w (mg κ ρ1) := by
  simp only [X_X10_keepsRules, X_X10_keepsRules_0, X_X10_keepsRules_2]
  refine Lw.at 16 (fun K' i hi hk' => c_keepStep hG hC hS hR hY hu hk hc1 hf t4 t3 hp hi (fun h => hr i h) hk') (fun K' => brT (by decide) ⟨bz1, q⟩)
theorem c_keeps0 (hG : Ly G) (hC : StC κ) (hS : RelS sc n mc rt hc κ ρ) (hR : RelR N r0 κ ρ) (hY : RowsW n r0 mc rt K ρ) (hu : u < 4) (hk : k < 60) {c m0 : Nat} {x : Int32} (hc1 : c < n) (hf : rt c = f) (t4 : mI κ (537 + 184 * u + 3 * k) 4 = nI c) (t3 : mI κ (537 + 184 * u + 3 * k) 3 = x) {w : Int32} {p : Nat → Bool} (hp : ∀ m, m < 16 → (((w >>> (nI m &&& 31)) &&& (1 : Int32)) = 0) = (p m = false)) (hm0 : m0 < mc c) (hr : ∀ m, m < m0 → p m = true → rul r0 rt ρ f x c m (mI κ (538 + 184 * u + 3 * k) m) = -1) (hp0 : p m0 = true) (hb : rul r0 rt ρ f x c m0 (mI κ (538 + 184 * u + 3 * k) m0) ≠ -1) {Q : Int32 → Mem → Prop} (q : Q 0 (mg (brkC κ (537 + 184 * u + 3 * k) 1 (nI m0) (rul r0 rt ρ f x c m0 (mI κ (538 + 184 * u + 3 * k) m0))) ρ1)) : X_X10_keepsRules G Q 1269 (537 + 184 * u + 3 * k) w (mg κ ρ1) := by
  have hL := hG.1
  have h12 := hS.le
  have h16 := hS.m16 hc1
  have n16 : (16 : Int32) = nI 16 := rfl
  simp only [X_X10_keepsRules, X_X10_keepsRules_0, X_X10_keepsRules_2]
  refine Lw.at m0 (fun K' i hi hk' => c_keepStep hG hC hS hR hY hu hk hc1 hf t4 t3 hp (by omega) (fun _ => hr i hi) hk') (fun K' => ?_)
  simp (disch := omega) only [X_X10_keepsRules_2_s, X_X10_keepsRules_56, n16, lT, lF, tT, tF, eF, pF, zT, m1F, vT, cI, true_and, and_true, true_implies, false_implies, not_false_eq_true, not_true_eq_false, forall_eq, implies_true, hp, hp0]
  refine brF (by decide) ?_
  simp (disch := omega) only [mI_c, mR_c, mJ_c, sI_c, sJ_c, sR_c, hL.1, hL.2.1, hL.2.2, hC.1, hC.2.1, hC.2.2.1, lT, lF, tT, tF, eF, pF, zT, m1F, vT, cI, true_and, and_true, true_implies, false_implies, not_false_eq_true, not_true_eq_false, forall_eq, implies_true, t3, t4]
  refine c_brokenRule hG hC hS hR hY hc1 hf hm0 (brF hb ?_)
  exact c_breakOff hL hu hk ⟨bz0, q⟩
theorem rul_fr (hS : RelS sc n mc rt hc κ ρ) (hRM : RowsM n r0 ρ) (hm : Eqv sM ρ ρ') (hr : ∀ a k, 1305 ≤ a → a ≤ 1309 → mI ρ' a k = mI ρ a k) {c m : Nat} {x v : Int32} (hc1 : c < n) (hm1 : m < mc c) (hf : f < 12) : rul r0 rt ρ' f x c m v = rul r0 rt ρ f x c m v := by
  refine rul_eq hS hm hc1 hm1 hf (fun r h1 h2 => ⟨h1, hr _ _ (by decide) (by decide), hr _ _ (by decide) (by decide), hr _ _ (by decide) (by decide), hr _ _ (by decide) (by decide), hRM.2.2.2 r h1⟩) (fun r h1 h2 => ⟨h1, hr _ _ (by decide) (by decide), hr _ _ (by decide) (by decide), hr _ _ (by decide) (by decide), hr _ _ (by decide) (by decide), hRM.2.2.2 r h1⟩)
theorem RowsM.fr (h : RowsM n r0 ρ) (h26 : mI ρ' 1282 26 = mI ρ 1282 26) (hr : ∀ a k, 1305 ≤ a → a ≤ 1309 → mI ρ' a k = mI ρ a k) : RowsM n r0 ρ' := by
  refine ⟨h26.trans h.1, h.2.1, fun r r' h1 h2 e1 e2 => ?_, fun r h1 => ?_⟩
  · rw [hr _ _ (by decide) (by decide), hr _ _ (by decide) (by decide)] at e1 e2
    exact h.2.2.1 r r' h1 h2 e1 e2
  · rw [hr _ _ (by decide) (by decide)]; exact h.2.2.2 r h1
/-- a reference that need not be set breaks no rule by being unset -/
theorem rul_off (hS : RelS sc n mc rt hc κ ρ) {c m : Nat} {x : Int32} (hc1 : c < n) (hm1 : m < mc c) (h4 : mI ρ 1290 (16 * c + m) = 4) (h2 : mI ρ 1294 (16 * c + m) &&& 2 = 0) : rul r0 rt ρ f x c m 0 = -1 := by
  obtain ⟨⟨kd, kd1, kd2, -, ⟨fl, fl1, fl2, -, fl4, -⟩, -⟩, -⟩ := hS.mw hc1 hm1
  have ekd : kd = 4 := (eI (b := 4) (by omega) (by decide)).mp (kd2.symm.trans h4)
  have hev := fl4 ekd
  unfold rul
  rw [ifp_f (fun h => h.2.1 h2), ifp_f, ifp_f (fun h => h.2.1 rfl)]
  rintro ⟨h1, -⟩
  refine h1 ?_
  rw [fl2, pk_andN (by omega) 1 (by decide)]
  show nI (fl % 2) = nI 0
  rw [hev]
end RULES3
