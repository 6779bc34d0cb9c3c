/-! what a new object waits for -/
noncomputable def dP (p : Prop) : Bool := @decide p (Classical.propDecidable p)
theorem dP_t {p : Prop} (h : p) : dP p = true := @decide_eq_true p (Classical.propDecidable p) h
theorem dP_f {p : Prop} (h : ¬ p) : dP p = false := @decide_eq_false p (Classical.propDecidable p) h
theorem dP_o {p : Prop} (h : dP p = true) : p := @of_decide_eq_true p (Classical.propDecidable p) h
def wt (us mc rt : Nat → Nat) (ρ : Mem) (u k m : Nat) : Prop := ∃ c t k', c < 12 ∧ mI ρ 1322 (60 * u + k) = nI c ∧ m < mc c ∧ mI ρ 1290 (16 * c + m) = 4 ∧ mI ρ 1324 (16 * (60 * u + k) + m) ≠ 0 ∧ t < 12 ∧ mI ρ 1291 (16 * c + m) = nI t ∧ k' < us u ∧ k' ≠ k ∧ mI ρ 1320 (60 * u + k') = nI (rt t) ∧ mI ρ 1321 (60 * u + k') = mI ρ 1324 (16 * (60 * u + k) + m) ∧ mI ρ 1319 (60 * u + k') = 2 ∧ mI ρ 1335 (60 * u + k') = 0
noncomputable def wtB (us mc rt : Nat → Nat) (ρ : Mem) (u k m : Nat) : Bool := dP (wt us mc rt ρ u k m)
section WAITS
variable {G : Lay} {nn sc n r0 r1 w : Nat} {mc rt hc K N N1 us : Nat → Nat} {κ κ' κ0 ρ ρ' ρ0 κ1 ρ1 : Mem} {u k : Nat}
theorem bitsN_ext {p : Nat → Bool} {c : Nat} : ∀ n, c ≤ n → (∀ m, c ≤ m → m < n → p m = false) → bitsN p n = bitsN p c := by
  intro n
  induction n with
  | zero => intro h _; rw [Nat.le_zero.mp h]
  | succ n ih =>
    intro h h2
    by_cases e : c = n + 1
    · rw [e]
    · show bitsN p n + _ = _
      rw [h2 n (by omega) (by omega), ih (by omega) (fun m a b => h2 m a (by omega))]; rfl
theorem m_waitsFor (hM : LyM G) (hm : StM ρ) (hS : RelS sc n mc rt hc κ ρ) (hu : u < 4) (h60 : us u ≤ 60) (eu : mI ρ 1317 u = nI (us u)) (hk : k < us u) {c m : Nat} (hc1 : c < n) (ec : mI ρ 1322 (60 * u + k) = nI c) (hm1 : m < mc c) (uq : ∀ a b, a < us u → b < us u → mI ρ 1320 (60 * u + a) = mI ρ 1320 (60 * u + b) → mI ρ 1321 (60 * u + a) = mI ρ 1321 (60 * u + b) → a = b) {Q : Int32 → Mem → Prop} (k1 : ∀ j, j < 240 → wt us mc rt ρ u k m → Q (nI j) (mg κ1 ρ)) (k0 : ¬ wt us mc rt ρ u k m → Q (-1) (mg κ1 ρ)) : X_X12_waitsFor G Q 1282 (nI (60 * u + k)) (nI m) (mg κ1 ρ) := by
  have h12 := hS.le
  have h16 := hS.m16 hc1
  have n16 : (16 : Int32) = nI 16 := rfl
  have n60 : (60 : Int32) = nI 60 := rfl
  have e60 : (60 * u + k) / 60 = u := by omega
  have cc : ∀ c', c' < 12 → mI ρ 1322 (60 * u + k) = nI c' → c' = c := fun c' h1 h2 => (eI (by omega) (by omega)).mp (h2.symm.trans ec)
  simp (disch := omega) only [X_X12_waitsFor_40, X_X12_waitsFor_102, X_X12_waitsFor_101, X_X12_waitsFor_0, X_X12_waitsFor, n16, n60, pk_mul, nI_add, dI, e60, mI_m, mR_m, mJ_m, sI_m, sJ_m, hM.1, hM.2, hm.1, hm.2, lT, lF, tT, tF, eF, pF, zT, m1F, vT, cI, true_and, and_true, true_implies, false_implies, not_false_eq_true, not_true_eq_false, forall_eq, implies_true, ec]
  refine ⟨fun e4 => ⟨fun e0 => k0 ?_, fun e0 => ?_⟩, fun e4 => k0 ?_⟩
  · rintro ⟨c', t, k', h1, h2, h3, h4, h5, -⟩
    exact h5 e0
  · obtain ⟨⟨kd, kd1, kd2, -, -, hto⟩, -⟩ := hS.mw hc1 hm1
    have ekd : kd = 4 := (eI (b := 4) (by omega) (by decide)).mp (kd2.symm.trans e4)
    subst ekd
    obtain ⟨t, t1, t2, -⟩ := hto (Nat.le_refl _)
    have hrt := hS.rt12 t1
    simp (disch := omega) only [t2]
    refine m_rootOf hM hm hS t1 ?_
    rcases objCase us ρ u (nI (rt t)) (mI ρ 1324 (16 * (60 * u + k) + m)) with ⟨j, j1, j2, j3, j4⟩ | hno
    · refine m_objectOf1 hM hm h60 eu hu j1 j2 j3 j4 (brF (pI (by omega)) ?_)
      have un : ∀ c' t' k', c' < 12 → mI ρ 1322 (60 * u + k) = nI c' → t' < 12 → mI ρ 1291 (16 * c' + m) = nI t' → k' < us u → mI ρ 1320 (60 * u + k') = nI (rt t') → mI ρ 1321 (60 * u + k') = mI ρ 1324 (16 * (60 * u + k) + m) → k' = j := fun c' t' k' a1 a2 a3 a4 a5 a6 a7 => by
        have e1 := cc c' a1 a2
        subst e1
        have e2 : t' = t := (eI (by omega) (by omega)).mp (a4.symm.trans t2)
        subst e2
        exact uq k' j a5 j1 (a6.trans j2.symm) (a7.trans j3.symm)
      by_cases e : j = k
      · refine brT (by rw [e]) (k0 ?_)
        rintro ⟨c', t', k', a1, a2, a3, a4, a5, a6, a7, a8, a9, a10, a11, -⟩
        exact a9 ((un c' t' k' a1 a2 a6 a7 a8 a10 a11).trans e)
      · refine brF (fun z => e (by have := (eI (by omega) (by omega)).mp z; omega)) ?_
        simp (disch := omega) only [mI_m, mR_m, mJ_m, sI_m, sJ_m, hM.1, hM.2, hm.1, hm.2, lT, lF, tT, tF, eF, pF, zT, m1F, vT, cI, true_and, and_true, true_implies, false_implies, not_false_eq_true, not_true_eq_false, forall_eq, implies_true]
        refine ⟨fun s2 => ⟨fun i0 => k1 _ (by omega) ⟨c, t, j, by omega, ec, hm1, e4, e0, by omega, t2, j1, e, j2, j3, s2, i0⟩, fun i0 => k0 ?_⟩, fun s2 => k0 ?_⟩
        · rintro ⟨c', t', k', a1, a2, a3, a4, a5, a6, a7, a8, a9, a10, a11, a12, a13⟩
          rw [un c' t' k' a1 a2 a6 a7 a8 a10 a11] at a13
          exact i0 a13
        · rintro ⟨c', t', k', a1, a2, a3, a4, a5, a6, a7, a8, a9, a10, a11, a12, a13⟩
          rw [un c' t' k' a1 a2 a6 a7 a8 a10 a11] at a12
          exact s2 a12
    · refine m_objectOf0 hM hm h60 eu hu hno (brT m1_neg (k0 ?_))
      rintro ⟨c', t', k', a1, a2, a3, a4, a5, a6, a7, a8, a9, a10, a11, a12, a13⟩
      have e1 := cc c' a1 a2
      subst e1
      have e2 : t' = t := (eI (by omega) (by omega)).mp (a7.symm.trans t2)
      subst e2
      exact hno k' a8 ⟨a10, a11⟩
  · rintro ⟨c', t, k', h1, h2, h3, h4, -⟩
    rw [cc c' h1 h2] at h4
    exact e4 h4
theorem m_waitsHow (hM : LyM G) (hm : StM ρ) (hS : RelS sc n mc rt hc κ ρ) (hu : u < 4) (h60 : us u ≤ 60) (eu : mI ρ 1317 u = nI (us u)) (hk : k < us u) {c : Nat} (hc1 : c < n) (ec : mI ρ 1322 (60 * u + k) = nI c) (uq : ∀ a b, a < us u → b < us u → mI ρ 1320 (60 * u + a) = mI ρ 1320 (60 * u + b) → mI ρ 1321 (60 * u + a) = mI ρ 1321 (60 * u + b) → a = b) {Q : Int32 → Mem → Prop} (k0 : (∀ m, m < mc c → ¬ wt us mc rt ρ u k m) → Q 0 (mg κ1 ρ)) (k1 : (∃ m, m < mc c ∧ wt us mc rt ρ u k m) → (∀ m, m < mc c → wt us mc rt ρ u k m → mI ρ 1294 (16 * c + m) &&& 2 = 0) → Q 1 (mg κ1 ρ)) (k2 : (∃ m, m < mc c ∧ wt us mc rt ρ u k m ∧ ¬ mI ρ 1294 (16 * c + m) &&& 2 = 0) → Q 2 (mg κ1 ρ)) : X_X12_waitsHow G Q 1282 (nI (60 * u + k)) (mg κ1 ρ) := by
  have h12 := hS.le
  obtain ⟨-, -, -, -, ew, h16, -⟩ := hS.cls hc1
  have n16 : (16 : Int32) = nI 16 := rfl
  simp only [X_X12_waitsHow, X_X12_waitsHow_0, X_X12_waitsHow_4]
  refine Lw.nat (mc c) (fun i x => ∃ h : Int32, x = (h, nI i, mg κ1 ρ) ∧ (h = 0 ∧ (∀ m, m < i → ¬ wt us mc rt ρ u k m) ∨ h = 1 ∧ (∃ m, m < i ∧ wt us mc rt ρ u k m) ∧ (∀ m, m < i → wt us mc rt ρ u k m → mI ρ 1294 (16 * c + m) &&& 2 = 0) ∨ h = 2 ∧ ∃ m, m < i ∧ wt us mc rt ρ u k m ∧ ¬ mI ρ 1294 (16 * c + m) &&& 2 = 0)) ?_ 0 (by omega) _ ⟨0, rfl, Or.inl ⟨rfl, fun m h => by omega⟩⟩
  rintro K' i x hi ⟨h, rfl, hh⟩ hk'
  by_cases hlt : i < mc c
  · simp (disch := omega) only [X_X12_waitsHow_4_s, mI_m, mR_m, mJ_m, sI_m, sJ_m, hM.1, hM.2, hm.1, hm.2, lT, lF, tT, tF, eF, pF, zT, m1F, vT, cI, true_and, and_true, true_implies, false_implies, not_false_eq_true, not_true_eq_false, forall_eq, implies_true, ec, ew]
    refine m_waitsFor hM hm hS hu h60 eu hk hc1 ec hlt uq (fun j hj hw => brT (Int32.not_lt.mp (pI (by omega))) ?_) (fun hw => brF (by decide) ?_)
    · simp (disch := omega) only [n16, pk_mul, nI_add, mI_m, mR_m, mJ_m, sI_m, sJ_m, hM.1, hM.2, hm.1, hm.2, lT, lF, tT, tF, eF, pF, zT, m1F, vT, cI, true_and, and_true, true_implies, false_implies, not_false_eq_true, not_true_eq_false, forall_eq, implies_true, ec, X_X12_waitsHow_57, X_X12_waitsHow_71, X_X12_waitsHow_72, nI_1]
      refine ⟨fun z => ?_, fun z => ?_⟩
      · rcases hh with ⟨rfl, h1⟩ | ⟨rfl, h1, h2⟩ | ⟨rfl, m, h1, h2, h3⟩
        · refine brF (by decide) (hk' _ hlt ⟨1, rfl, Or.inr (Or.inl ⟨rfl, ⟨i, by omega, hw⟩, fun m m1 m2 => ?_⟩)⟩)
          by_cases e : m = i
          · rw [e]; exact z
          · exact absurd m2 (h1 m (by omega))
        · refine brT (by decide) (hk' _ hlt ⟨1, rfl, Or.inr (Or.inl ⟨rfl, ⟨i, by omega, hw⟩, fun m m1 m2 => ?_⟩)⟩)
          by_cases e : m = i
          · rw [e]; exact z
          · exact h2 m (by omega) m2
        · exact brT (by decide) (hk' _ hlt ⟨2, rfl, Or.inr (Or.inr ⟨rfl, m, by omega, h2, h3⟩)⟩)
      · rcases hh with ⟨rfl, h1⟩ | ⟨rfl, h1, h2⟩ | ⟨rfl, m, h1, h2, h3⟩
        · exact brF (by decide) (hk' _ hlt ⟨2, rfl, Or.inr (Or.inr ⟨rfl, i, by omega, hw, z⟩)⟩)
        · exact brF (by decide) (hk' _ hlt ⟨2, rfl, Or.inr (Or.inr ⟨rfl, i, by omega, hw, z⟩)⟩)
        · exact brT (by decide) (hk' _ hlt ⟨2, rfl, Or.inr (Or.inr ⟨rfl, i, by omega, hw, z⟩)⟩)
    · simp (disch := omega) only [X_X12_waitsHow_72, nI_1]
      refine hk' _ hlt ⟨h, rfl, ?_⟩
      rcases hh with ⟨rfl, h1⟩ | ⟨rfl, ⟨m, h0, h1⟩, h2⟩ | ⟨rfl, m, h1, h2, h3⟩
      · refine Or.inl ⟨rfl, fun m m1 => ?_⟩
        by_cases e : m = i
        · rw [e]; exact hw
        · exact h1 m (by omega)
      · refine Or.inr (Or.inl ⟨rfl, ⟨m, by omega, h1⟩, fun m m1 m2 => ?_⟩)
        by_cases e : m = i
        · rw [e] at m2; exact absurd m2 hw
        · exact h2 m (by omega) m2
      · exact Or.inr (Or.inr ⟨rfl, m, by omega, h2, h3⟩)
  · obtain rfl : i = mc c := by omega
    simp (disch := omega) only [X_X12_waitsHow_4_s, mI_m, mR_m, mJ_m, sI_m, sJ_m, hM.1, hM.2, hm.1, hm.2, lT, lF, tT, tF, eF, pF, zT, m1F, vT, cI, true_and, and_true, true_implies, false_implies, not_false_eq_true, not_true_eq_false, forall_eq, implies_true, ec, ew]
    rcases hh with ⟨rfl, h1⟩ | ⟨rfl, h1, h2⟩ | ⟨rfl, h1⟩
    · exact k0 h1
    · exact k1 h1 h2
    · exact k2 h1
theorem c_early (hG : Ly G) (hC : StC κ) (hS : RelS sc n mc rt hc κ ρ) (hU : RelU us κ ρ) (hu : u < 4) (ho : mI ρ 1316 u = 1) (hk : k < us u) {c : Nat} (hc1 : c < n) (ec : mI ρ 1322 (60 * u + k) = nI c) (uq : ∀ a b, a < us u → b < us u → mI ρ 1320 (60 * u + a) = mI ρ 1320 (60 * u + b) → mI ρ 1321 (60 * u + a) = mI ρ 1321 (60 * u + b) → a = b) (hI : ∀ j, j < us u → mI ρ 1319 (60 * u + j) = 2 → mI κ (537 + 184 * u + 3 * j) 9 = mI ρ 1335 (60 * u + j)) {Q : Int32 → Mem → Prop} (q : Q (nI (bitsN (wtB us mc rt ρ u k) 16)) (mg κ ρ1)) : X_X10_earlyReferences G Q 1269 (533 + 184 * u) (537 + 184 * u + 3 * k) (mg κ ρ1) := by
  have hL := hG.1
  have hT2 := hG.s hS.s2
  have hK2 := hC.ss hS.s2
  have hs2 := hS.s2
  have h12 := hS.le
  obtain ⟨-, -, -, ew, -, h16, -⟩ := hS.cls hc1
  obtain ⟨h60, -, -, -, o5⟩ := hU.op hu ho
  obtain ⟨t1, t2, t3, t4, t5, t6⟩ := o5 k hk
  rw [ec] at t4
  have cc : ∀ c', c' < 12 → mI ρ 1322 (60 * u + k) = nI c' → c' = c := fun c' h1 h2 => (eI (by omega) (by omega)).mp (h2.symm.trans ec)
  have eb : bitsN (wtB us mc rt ρ u k) 16 = bitsN (wtB us mc rt ρ u k) (mc c) := bitsN_ext 16 h16 (fun m m1 m2 => dP_f (by
    rintro ⟨c', t, k', h1, h2, h3, -⟩
    rw [cc c' h1 h2] at h3
    omega))
  rw [eb] at q
  simp (disch := omega) only [X_X10_earlyReferences, X_X10_earlyReferences_0, X_X10_earlyReferences_22, mI_c, mR_c, mJ_c, sI_c, sJ_c, sR_c, hL.1, hL.2.1, hL.2.2, hC.1, hC.2.1, hC.2.2.1, lT, lF, tT, tF, eF, pF, zT, m1F, vT, cI, true_and, and_true, true_implies, false_implies, not_false_eq_true, not_true_eq_false, forall_eq, implies_true, hS.r13, hT2.1, hT2.2.1, hK2.1, hK2.2.1, t4]
  refine Lw.nat (mc c) (fun i x => x = (nI (bitsN (wtB us mc rt ρ u k) i), nI i, mg κ ρ1)) ?_ 0 (by omega) _ rfl
  rintro K' i x hi rfl hk'
  by_cases hlt : i < mc c
  · have mem := hS.mem hc1 hlt
    obtain ⟨g3, gm, -⟩ := memT hG hS hc1 hlt
    have fin1 : wt us mc rt ρ u k i → K' (nI (bitsN (wtB us mc rt ρ u k) i) ||| ((1 : Int32) <<< (nI i &&& 31)), nI i + 1, mg κ ρ1) := fun hw => by
      rw [or_bit (by omega), nI_1]
      refine hk' _ hlt ?_
      show _ = (nI (bitsN _ i + if dP _ = true then 2 ^ i else 0), _)
      rw [if_pos (dP_t hw)]
    have fin0 : ¬ wt us mc rt ρ u k i → K' (nI (bitsN (wtB us mc rt ρ u k) i), nI i + 1, mg κ ρ1) := fun hw => by
      rw [nI_1]
      refine hk' _ hlt ?_
      show _ = (nI (bitsN _ i + if dP _ = true then 2 ^ i else 0), _)
      rw [if_neg (by rw [dP_f hw]; decide)]; rfl
    simp (disch := omega) only [X_X10_earlyReferences_22_s, X_X10_earlyReferences_129, mI_c, mR_c, mJ_c, sI_c, sJ_c, sR_c, hL.1, hL.2.1, hL.2.2, hC.1, hC.2.1, hC.2.2.1, lT, lF, tT, tF, eF, pF, zT, m1F, vT, cI, true_and, and_true, true_implies, false_implies, not_false_eq_true, not_true_eq_false, forall_eq, implies_true, hT2.2.1, hK2.2.1, ew, g3, mem.2.2.1, (t6 i (by omega)).1, hS.r13, hT2.1]
    refine ⟨fun e4 => ⟨fun e0 => fin0 ?_, fun e0 => ?_⟩, fun e4 => fin0 ?_⟩
    · rintro ⟨c', t, k', h1, h2, h3, h4, h5, -⟩
      exact h5 e0
    · obtain ⟨⟨kd, kd1, kd2, -, -, hto⟩, -⟩ := hS.mw hc1 hlt
      have ekd : kd = 4 := (eI (b := 4) (by omega) (by decide)).mp (kd2.symm.trans e4)
      subst ekd
      obtain ⟨t, a1, a2, -⟩ := hto (Nat.le_refl _)
      have m8 := (mem.2.2.2.2.2.1 (by rw [e4]; decide)).trans a2
      have hrt := hS.rt12 a1
      simp (disch := omega) only [m8]
      refine c_rootOf1 hG hC hS a1 ?_
      simp (disch := omega) only [mI_c, mR_c, mJ_c, sI_c, sJ_c, sR_c, hL.1, hL.2.1, hL.2.2, hC.1, hC.2.1, hC.2.2.1, lT, lF, tT, tF, eF, pF, zT, m1F, vT, cI, true_and, and_true, true_implies, false_implies, not_false_eq_true, not_true_eq_false, forall_eq, implies_true, (t6 i (by omega)).1]
      rcases objCase us ρ u (nI (rt t)) (mI ρ 1324 (16 * (60 * u + k) + i)) with ⟨j, j1, j2, j3, j4⟩ | hno
      · refine c_thingFor1 hL hC hU hu ho j1 j2 j3 j4 (brF (by omega) ?_)
        have un : ∀ c' t' k', c' < 12 → mI ρ 1322 (60 * u + k) = nI c' → t' < 12 → mI ρ 1291 (16 * c' + i) = nI t' → k' < us u → mI ρ 1320 (60 * u + k') = nI (rt t') → mI ρ 1321 (60 * u + k') = mI ρ 1324 (16 * (60 * u + k) + i) → k' = j := fun c' t' k' b1 b2 b3 b4 b5 b6 b7 => by
          have e1 := cc c' b1 b2
          subst e1
          have e2 : t' = t := (eI (by omega) (by omega)).mp (b4.symm.trans a2)
          subst e2
          exact uq k' j b5 j1 (b6.trans j2.symm) (b7.trans j3.symm)
        by_cases e : j = k
        · refine brT (by rw [e]) (fin0 ?_)
          rintro ⟨c', t', k', b1, b2, b3, b4, b5, b6, b7, b8, b9, b10, b11, -⟩
          exact b9 ((un c' t' k' b1 b2 b6 b7 b8 b10 b11).trans e)
        · refine brF (by omega) ?_
          simp (disch := omega) only [mI_c, mR_c, mJ_c, sI_c, sJ_c, sR_c, hL.1, hL.2.1, hL.2.2, hC.1, hC.2.1, hC.2.2.1, lT, lF, tT, tF, eF, pF, zT, m1F, vT, cI, true_and, and_true, true_implies, false_implies, not_false_eq_true, not_true_eq_false, forall_eq, implies_true, (o5 j j1).1]
          refine ⟨fun s2 => ?_, fun s2 => fin0 ?_⟩
          · rw [hI j j1 s2]
            refine ⟨fun i0 => fin1 ⟨c, t, j, by omega, ec, hlt, e4, e0, by omega, a2, j1, e, j2, j3, s2, i0⟩, fun i0 => fin0 ?_⟩
            rintro ⟨c', t', k', b1, b2, b3, b4, b5, b6, b7, b8, b9, b10, b11, b12, b13⟩
            rw [un c' t' k' b1 b2 b6 b7 b8 b10 b11] at b13
            exact i0 b13
          · rintro ⟨c', t', k', b1, b2, b3, b4, b5, b6, b7, b8, b9, b10, b11, b12, b13⟩
            rw [un c' t' k' b1 b2 b6 b7 b8 b10 b11] at b12
            exact s2 b12
      · refine c_thingFor0 hL hC hU hu ho hno (brT rfl (fin0 ?_))
        rintro ⟨c', t', k', b1, b2, b3, b4, b5, b6, b7, b8, b9, b10, b11, b12, b13⟩
        have e1 := cc c' b1 b2
        subst e1
        have e2 : t' = t := (eI (by omega) (by omega)).mp (b7.symm.trans a2)
        subst e2
        exact hno k' b8 ⟨b10, b11⟩
    · rintro ⟨c', t, k', h1, h2, h3, h4, -⟩
      rw [cc c' h1 h2] at h4
      exact e4 h4
  · obtain rfl : i = mc c := by omega
    simp (disch := omega) only [X_X10_earlyReferences_22_s, mI_c, mR_c, mJ_c, sI_c, sJ_c, sR_c, hL.1, hL.2.1, hL.2.2, hC.1, hC.2.1, hC.2.2.1, lT, lF, tT, tF, eF, pF, zT, m1F, vT, cI, true_and, and_true, true_implies, false_implies, not_false_eq_true, not_true_eq_false, forall_eq, implies_true, hT2.2.1, ew]
    exact q
theorem c_hasMust (hG : Ly G) (hC : StC κ) (hS : RelS sc n mc rt hc κ ρ) (hu : u < 4) (hk : k < 60) {c : Nat} (hc1 : c < n) (ec : mI κ (537 + 184 * u + 3 * k) 4 = nI c) {p : Nat → Bool} {Q : Int32 → Mem → Prop} (k1 : (∃ m, m < mc c ∧ p m = true ∧ ¬ mI ρ 1294 (16 * c + m) &&& 2 = 0) → Q 1 (mg κ ρ1)) (k0 : (∀ m, m < mc c → p m = true → mI ρ 1294 (16 * c + m) &&& 2 = 0) → Q 0 (mg κ ρ1)) : X_X10_hasMust G Q 1269 (537 + 184 * u + 3 * k) (nI (bitsN p 16)) (mg κ ρ1) := by
  have hL := hG.1
  have hT2 := hG.s hS.s2
  have hK2 := hC.ss hS.s2
  have hs2 := hS.s2
  have h12 := hS.le
  obtain ⟨-, -, -, ew, -, h16, -⟩ := hS.cls hc1
  simp (disch := omega) only [X_X10_hasMust, X_X10_hasMust_0, X_X10_hasMust_19, mI_c, mR_c, mJ_c, sI_c, sJ_c, sR_c, hL.1, hL.2.1, hL.2.2, hC.1, hC.2.1, hC.2.2.1, lT, lF, tT, tF, eF, pF, zT, m1F, vT, cI, true_and, and_true, true_implies, false_implies, not_false_eq_true, not_true_eq_false, forall_eq, implies_true, hS.r13, hT2.1, hT2.2.1, hK2.1, hK2.2.1, ec]
  refine Lw.find (mc c) (fun m => p m = true ∧ ¬ mI ρ 1294 (16 * c + m) &&& 2 = 0) (fun K' i hi hj hk' => ?_)
  by_cases hlt : i < mc c
  · have mem := hS.mem hc1 hlt
    obtain ⟨g3, gm, -⟩ := memT hG hS hc1 hlt
    simp (disch := omega) only [X_X10_hasMust_19_s, X_X10_hasMust_53, mI_c, mR_c, mJ_c, sI_c, sJ_c, sR_c, hL.1, hL.2.1, hL.2.2, hC.1, hC.2.1, hC.2.2.1, lT, lF, tT, tF, eF, pF, zT, m1F, vT, cI, true_and, and_true, true_implies, false_implies, not_false_eq_true, not_true_eq_false, forall_eq, implies_true, hT2.2.1, hK2.2.1, ew, g3, tb0, bitsN_tb, nI_1]
    refine ⟨fun e => hk' hlt (fun z => by rw [e] at z; exact absurd z.1 (by decide)), fun e => ?_⟩
    have ep : p i = true := by
      cases h : p i
      · exact absurd h e
      · rfl
    simp (disch := omega) only [X_X2_has_14, X_X2_has_0, X_X2_has, mI_c, g3, mem.2.2.2.1, true_and, bzT1, bzT0]
    refine ⟨fun z => brT trivial (hk' hlt (fun y => y.2 z)), fun z => br1 (k1 ⟨i, hlt, ep, z⟩)⟩
  · obtain rfl : i = mc c := by omega
    simp (disch := omega) only [X_X10_hasMust_19_s, mI_c, mR_c, mJ_c, sI_c, sJ_c, sR_c, hL.1, hL.2.1, hL.2.2, hC.1, hC.2.1, hC.2.2.1, lT, lF, tT, tF, eF, pF, zT, m1F, vT, cI, true_and, and_true, true_implies, false_implies, not_false_eq_true, not_true_eq_false, forall_eq, implies_true, hT2.2.1, ew, bzT0]
    refine k0 (fun m m1 m2 => ?_)
    by_cases z : mI ρ 1294 (16 * c + m) &&& 2 = 0
    · exact z
    · exact absurd ⟨m2, z⟩ (hj m m1)
end WAITS
