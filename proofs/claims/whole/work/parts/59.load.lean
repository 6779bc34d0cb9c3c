/-! a block of an array is filled -/
def sF (σ : Mem) (a lo hi : Nat) (f : Nat → Int32) : Mem := ((fun q k => if q = a ∧ lo ≤ k ∧ k < hi then f k else σ.1 q k), σ.2.1, σ.2.2)
section SF
variable {σ κ ρ : Mem} {a b lo hi k j : Nat} {f : Nat → Int32} {v : Int32}
theorem sF_in (h1 : lo ≤ k) (h2 : k < hi) : mI (sF σ a lo hi f) a k = f k := if_pos ⟨rfl, h1, h2⟩
theorem sF_out (h : k < lo ∨ hi ≤ k) : mI (sF σ a lo hi f) a k = mI σ a k := if_neg (fun e => by omega)
theorem sF_cl (h : b ≠ a) : mI (sF σ a lo hi f) b k = mI σ b k := if_neg (fun e => h e.1)
theorem sF_R (σ : Mem) (a lo hi b k : Nat) (f : Nat → Int32) : mR (sF σ a lo hi f) b k = mR σ b k := rfl
theorem sF_J (σ : Mem) (a lo hi b k : Nat) (f : Nat → Int32) : mJ (sF σ a lo hi f) b k = mJ σ b k := rfl
theorem sF_0 : sF σ a lo lo f = σ := by
  unfold sF
  refine Prod.ext ?_ rfl
  funext q k
  exact if_neg (fun e => by omega)
theorem sF_st (h : lo ≤ hi) (hv : v = f hi) : sI (sF σ a lo hi f) a hi v = sF σ a lo (hi + 1) f := by
  subst hv
  unfold sF sI
  refine Prod.ext ?_ rfl
  funext q k
  show (if q = a ∧ k = hi then f hi else if q = a ∧ lo ≤ k ∧ k < hi then f k else σ.1 q k) = if q = a ∧ lo ≤ k ∧ k < hi + 1 then f k else σ.1 q k
  by_cases h1 : q = a ∧ k = hi
  · rw [if_pos h1, if_pos (by omega), h1.2]
  · rw [if_neg h1]
    by_cases h2 : q = a ∧ lo ≤ k ∧ k < hi
    · rw [if_pos h2, if_pos (by omega)]
    · rw [if_neg h2, if_neg (by omega)]
theorem sF_sw (h : a ≠ b) : sI (sF σ b lo hi f) a k v = sF (sI σ a k v) b lo hi f := by
  unfold sF sI
  refine Prod.ext ?_ rfl
  funext q j
  show (if q = a ∧ j = k then v else if q = b ∧ lo ≤ j ∧ j < hi then f j else σ.1 q j) = if q = b ∧ lo ≤ j ∧ j < hi then f j else if q = a ∧ j = k then v else σ.1 q j
  by_cases h1 : q = a ∧ j = k
  · rw [if_pos h1, if_neg (by omega), if_pos h1]
  · rw [if_neg h1, if_neg h1]
theorem sF_c (h : a < 1282) : sF (mg κ ρ) a lo hi f = mg (sF κ a lo hi f) ρ := by
  unfold sF mg
  refine Prod.ext ?_ rfl
  funext q j
  show (if q = a ∧ lo ≤ j ∧ j < hi then f j else if q < 1282 then κ.1 q j else ρ.1 q j) = if q < 1282 then (if q = a ∧ lo ≤ j ∧ j < hi then f j else κ.1 q j) else ρ.1 q j
  by_cases h1 : q = a ∧ lo ≤ j ∧ j < hi
  · rw [if_pos h1, if_pos (by omega), if_pos h1]
  · rw [if_neg h1, if_neg h1]
theorem sF_m (h : 1282 ≤ a) : sF (mg κ ρ) a lo hi f = mg κ (sF ρ a lo hi f) := by
  unfold sF mg
  refine Prod.ext ?_ rfl
  funext q j
  show (if q = a ∧ lo ≤ j ∧ j < hi then f j else if q < 1282 then κ.1 q j else ρ.1 q j) = if q < 1282 then κ.1 q j else (if q = a ∧ lo ≤ j ∧ j < hi then f j else ρ.1 q j)
  by_cases h1 : q = a ∧ lo ≤ j ∧ j < hi
  · rw [if_pos h1, if_neg (by omega), if_pos h1]
  · rw [if_neg h1, if_neg h1]
theorem StC.wF (h : StC κ) (a lo hi : Nat) (f : Nat → Int32) : StC (sF κ a lo hi f) := h
theorem StM.wF (h : StM ρ) (a lo hi : Nat) (f : Nat → Int32) : StM (sF ρ a lo hi f) := h
theorem Eqv.sF {S : Nat → Nat → Prop} {σ' : Mem} (h : Eqv S σ σ') (hs : ∀ k, lo ≤ k → k < hi → ¬ S a k) : Eqv S σ (sF σ' a lo hi f) := fun b j hb => ⟨by
  show (if b = a ∧ lo ≤ j ∧ j < hi then f j else mI σ' b j) = mI σ b j
  rw [if_neg (by rintro ⟨rfl, h1, h2⟩; exact hs j h1 h2 hb)]
  exact (h b j hb).1, (h b j hb).2.1, (h b j hb).2.2⟩
theorem Eqv.sC {S : Nat → Nat → Prop} {σ' : Mem} {i n : Nat} (h : Eqv S σ σ') (hs : ∀ k, j ≤ k → k < j + n → ¬ S b k) : Eqv S σ (sC σ' a i b j n) := fun q k hb => ⟨by
  show (if q = b ∧ j ≤ k ∧ k < j + n then mI σ' a (i + (k - j)) else mI σ' q k) = mI σ q k
  rw [if_neg (by rintro ⟨rfl, h1, h2⟩; exact hs k h1 h2 hb)]
  exact (h q k hb).1, (h q k hb).2.1, (h q k hb).2.2⟩
end SF
def RunC0 (X : (Mem → Prop) → Mem → Prop) (κ κ' : Mem) : Prop := ∀ (ρ : Mem) (Q : Mem → Prop), Q (mg κ' ρ) → X Q (mg κ ρ)
def RunM0 (X : (Mem → Prop) → Mem → Prop) (ρ ρ' : Mem) : Prop := ∀ (κ : Mem) (Q : Mem → Prop), Q (mg κ ρ') → X Q (mg κ ρ)
theorem cpT {G : Lay} {a b i j n : Nat} (h1 : i + n ≤ gL G a) (h2 : j + n ≤ gL G b) (h3 : i + n < 2147483648) (h4 : j + n < 2147483648) : cpOk G a (nI i) b (nI j) (nI n) := by
  refine ⟨pI (by omega), pI (by omega), pI (by omega), ?_, ?_⟩
  · rw [cI (by omega), cI (by omega)]; exact h1
  · rw [cI (by omega), cI (by omega)]; exact h2
section LOAD
variable {G : Lay} {nn sc n r0 : Nat} {mc rt hc K N us : Nat → Nat} {κ ρ κ1 ρ1 : Mem}
/-! rows by family and key -/
theorem RelR.le (hR : RelR N r0 κ ρ) : r0 ≤ 720 := by
  rw [hR.2.2.1]
  have h := fun f hf => (hR.1 f hf).2
  have h0 := h 0 (by decide)
  have h1 := h 1 (by decide)
  have h2 := h 2 (by decide)
  have h3 := h 3 (by decide)
  have h4 := h 4 (by decide)
  have h5 := h 5 (by decide)
  have h6 := h 6 (by decide)
  have h7 := h 7 (by decide)
  have h8 := h 8 (by decide)
  have h9 := h 9 (by decide)
  have h10 := h 10 (by decide)
  have h11 := h 11 (by decide)
  unfold sum12
  omega
theorem RelR.rowInj (hR : RelR N r0 κ ρ) {f i j : Nat} (hf : f < 12) (hi : i < N f) (hj : j < N f) (e : mI κ 271 (60 * f + i) = mI κ 271 (60 * f + j)) : i = j := by
  by_cases h1 : i < j
  · have := hR.2.2.2.1 f hf i j h1 hj
    rw [e] at this
    exact absurd this (Int32.lt_irrefl)
  · by_cases h2 : j < i
    · have := hR.2.2.2.1 f hf j i h2 hi
      rw [e] at this
      exact absurd this (Int32.lt_irrefl)
    · omega
theorem rowCase (hR : RelR N r0 κ ρ) {f : Nat} (hf : f < 12) (x : Int32) : (∃ i r, i < N f ∧ r < r0 ∧ RowR κ ρ f i r ∧ mI ρ 1306 r = x) ∨ ((∀ i, i < N f → mI κ 271 (60 * f + i) ≠ x) ∧ ∀ r, r < r0 → ¬ (mI ρ 1305 r = nI f ∧ mI ρ 1306 r = x)) := by
  by_cases h : ∃ i, i < N f ∧ mI κ 271 (60 * f + i) = x
  · obtain ⟨i, hi, e⟩ := h
    obtain ⟨r, hr, h⟩ := hR.2.2.2.2.1 f hf i hi
    exact Or.inl ⟨i, r, hi, hr, h, h.2.1.symm.trans e⟩
  · refine Or.inr ⟨fun i hi e => h ⟨i, hi, e⟩, fun r hr ⟨e1, e2⟩ => ?_⟩
    obtain ⟨g, hg, i, hi, q⟩ := hR.2.2.2.2.2.1 r hr
    have eg : f = g := (eI (by omega) (by omega)).mp (e1.symm.trans q.1)
    subst eg
    exact h ⟨i, hi, q.2.1.trans e2⟩
theorem c_rowOf1 (hL : LyC G) (hC : StC κ) (hR : RelR N r0 κ ρ) {Q : Int32 → Mem → Prop} {f i : Nat} {x : Int32} (hf : f < 12) (hi : i < N f) (e : mI κ 271 (60 * f + i) = x) (k : Q (nI (60 * f + i)) (mg κ ρ1)) : X_X5_rowOf G Q 13 (nI f) x (mg κ ρ1) := by
  refine c_rowOf hL hC hR.1 hf x (fun j hj ej => ?_) (fun h => absurd e (h i hi))
  rw [hR.rowInj hf hj hi (ej.trans e.symm)]
  exact k
theorem c_rowOf0 (hL : LyC G) (hC : StC κ) (hR : RelR N r0 κ ρ) {Q : Int32 → Mem → Prop} {f : Nat} {x : Int32} (hf : f < 12) (e : ∀ i, i < N f → mI κ 271 (60 * f + i) ≠ x) (k : Q (-1) (mg κ ρ1)) : X_X5_rowOf G Q 13 (nI f) x (mg κ ρ1) :=
  c_rowOf hL hC hR.1 hf x (fun j hj ej => absurd ej (e j hj)) (fun _ => k)
theorem m_rowOf1 (hM : LyM G) (hm : StM ρ) (hR : RelR N r0 κ ρ) {Q : Int32 → Mem → Prop} {r : Nat} {f x : Int32} (hr : r < r0) (e1 : mI ρ 1305 r = f) (e2 : mI ρ 1306 r = x) (k : Q (nI r) (mg κ1 ρ)) : X_X12_rowOf G Q 1282 f x (mg κ1 ρ) := by
  have h720 := hR.le
  unfold X_X12_rowOf X_X12_rowOf_0 X_X12_rowOf_2
  refine Lw.at r (fun K' i hi hk => ?_) (fun K' => ?_)
  · simp (disch := omega) only [X_X12_rowOf_2_s, X_X12_rowOf_32, lT, lF, tT, tF, eF, pF, zT, m1F, vT, cI, true_and, and_true, true_implies, false_implies, not_false_eq_true, not_true_eq_false, forall_eq, implies_true, nI_1, mI_m, mR_m, hM.1, hM.2, hm.1, hm.2, hR.2.1]
    refine ⟨fun a => ⟨fun b => ?_, fun _ => hk⟩, fun _ => hk⟩
    have := hR.2.2.2.2.2.2.1 i r (by omega) hr (a.trans e1.symm) (b.trans e2.symm)
    omega
  · simp (disch := omega) only [X_X12_rowOf_2_s, X_X12_rowOf_32, lT, lF, tT, tF, eF, pF, zT, m1F, vT, cI, true_and, and_true, true_implies, false_implies, not_false_eq_true, not_true_eq_false, forall_eq, implies_true, mI_m, mR_m, hM.1, hM.2, hm.1, hm.2, hR.2.1, e1, e2]
    exact k
theorem m_rowOf0 (hM : LyM G) (hm : StM ρ) (hn : mI ρ 1282 26 = nI r0) (h720 : r0 ≤ 720) {Q : Int32 → Mem → Prop} {f x : Int32} (e : ∀ r, r < r0 → ¬ (mI ρ 1305 r = f ∧ mI ρ 1306 r = x)) (k : Q (-1) (mg κ1 ρ)) : X_X12_rowOf G Q 1282 f x (mg κ1 ρ) := by
  unfold X_X12_rowOf X_X12_rowOf_0 X_X12_rowOf_2
  refine Lw.at r0 (fun K' i hi hk => ?_) (fun K' => ?_)
  · simp (disch := omega) only [X_X12_rowOf_2_s, X_X12_rowOf_32, lT, lF, tT, tF, eF, pF, zT, m1F, vT, cI, true_and, and_true, true_implies, false_implies, not_false_eq_true, not_true_eq_false, forall_eq, implies_true, nI_1, mI_m, mR_m, hM.1, hM.2, hm.1, hm.2, hn]
    exact ⟨fun a => ⟨fun b => absurd ⟨a, b⟩ (e i hi), fun _ => hk⟩, fun _ => hk⟩
  · simp (disch := omega) only [X_X12_rowOf_2_s, X_X12_rowOf_32, lT, lF, tT, tF, eF, pF, zT, m1F, vT, cI, true_and, and_true, true_implies, false_implies, not_false_eq_true, not_true_eq_false, forall_eq, implies_true, mI_m, mR_m, hM.1, hM.2, hm.1, hm.2, hn]
    exact k
/-! to load a stand -/
def ldC (u k a j : Nat) : Prop := ¬ (thC u k a j ∨ a = 533 + 184 * u ∧ j = 6)
def ldM (u k a j : Nat) : Prop := ¬ (thM (60 * u + k) a j ∨ a = 1318 ∧ j = u)
theorem c_load1 (hG : Ly G) (hC : StC κ) (hR : RelR N r0 κ ρ) {u k f i : Nat} {x : Int32} (hu : u < 4) (hk : k < 60) (hf : f < 12) (hi : i < N f) (s0 : mI κ (537 + 184 * u + 3 * k) 1 = 0) (s2 : mI κ (537 + 184 * u + 3 * k) 2 = nI f) (s3 : mI κ (537 + 184 * u + 3 * k) 3 = x) (e : mI κ 271 (60 * f + i) = x) :
    ∃ κ', RunC0 (fun Q σ => X_X9_loadStand G Q (533 + 184 * u) (537 + 184 * u + 3 * k) σ) κ κ' ∧ StC κ' ∧ mI κ' (537 + 184 * u + 3 * k) 1 = 1 ∧ mI κ' (537 + 184 * u + 3 * k) 2 = nI f ∧ mI κ' (537 + 184 * u + 3 * k) 3 = x ∧ mI κ' (537 + 184 * u + 3 * k) 4 = mI κ 272 (60 * f + i) ∧ mI κ' (537 + 184 * u + 3 * k) 5 = mI κ 273 (60 * f + i) ∧ (∀ m, m < 16 → mI κ' (538 + 184 * u + 3 * k) m = mI κ 274 (16 * (60 * f + i) + m) ∧ mI κ' (539 + 184 * u + 3 * k) m = mI κ 274 (16 * (60 * f + i) + m)) ∧ mI κ' (533 + 184 * u) 6 = mI κ (533 + 184 * u) 6 + 1 ∧ Eqv (ldC u k) κ κ' := by
  have hL := hG.1
  have h60 := (hR.1 f hf).2
  refine ⟨?k, fun ρ1 Q hQ => ?run, ?st, ?a, ?b, ?c, ?d, ?e, ?f, ?g, ?h⟩
  case run =>
    simp (disch := omega) only [X_X9_loadStand_0, X_X9_loadStand, mI_c, mR_c, mJ_c, sI_c, sJ_c, sR_c, hL.1, hL.2.1, hL.2.2, hC.1, hC.2.1, hC.2.2.1, s0, s2, s3, true_and]
    refine brT trivial (c_rowOf1 hL hC hR hf hi e (brF (mI1 (by omega)) ?_))
    simp (disch := omega) only [X_X5_copyValues_0, X_X5_copyValues, X_X7_keepCopy_0, X_X7_keepCopy, n0, nls, lT, lF, tT, tF, eF, pF, zT, e0F, m1F, vT, cI, nI_1, nI_add, pk_mul, true_and, and_true, true_implies, false_implies, not_false_eq_true, not_true_eq_false, bzT1, bzT0, m10, m1z, o0F, forall_eq, implies_true, if_true, if_false, pk_mul, mI_c, mR_c, mJ_c, sI_c, sJ_c, sR_c, hL.1, hL.2.1, hL.2.2, hC.1, hC.2.1, hC.2.2.1, I_is, I_cl, I_sl, J_is, J_cl, J_sl, R_is, R_cl, R_sl, mI_sJ, mI_sR, mJ_sI, mJ_sR, mR_sI, mR_sJ, sC_R, sC_c, sC_cl]
    refine ⟨cpT (by simp (disch := omega) only [hL.1, hL.2.2]; omega) (by simp (disch := omega) only [hL.1, hL.2.2]; omega) (by omega) (by omega), cpT (by simp (disch := omega) only [hL.1, hL.2.2]; omega) (by simp (disch := omega) only [hL.1, hL.2.2]; omega) (by omega) (by omega), ?_⟩
    exact hQ
  case st => exact hC
  case a => simp (disch := omega) only [I_is, I_cl, I_sl, J_is, J_cl, J_sl, R_is, R_cl, R_sl, mI_sJ, mI_sR, mJ_sI, mJ_sR, mR_sI, mR_sJ, sC_cl]
  case b => simp (disch := omega) only [I_is, I_cl, I_sl, J_is, J_cl, J_sl, R_is, R_cl, R_sl, mI_sJ, mI_sR, mJ_sI, mJ_sR, mR_sI, mR_sJ, sC_cl, s2]
  case c => simp (disch := omega) only [I_is, I_cl, I_sl, J_is, J_cl, J_sl, R_is, R_cl, R_sl, mI_sJ, mI_sR, mJ_sI, mJ_sR, mR_sI, mR_sJ, sC_cl, s3]
  case d => simp (disch := omega) only [I_is, I_cl, I_sl, J_is, J_cl, J_sl, R_is, R_cl, R_sl, mI_sJ, mI_sR, mJ_sI, mJ_sR, mR_sI, mR_sJ, sC_cl]
  case e => simp (disch := omega) only [I_is, I_cl, I_sl, J_is, J_cl, J_sl, R_is, R_cl, R_sl, mI_sJ, mI_sR, mJ_sI, mJ_sR, mR_sI, mR_sJ, sC_cl]
  case f =>
    intro m hm
    simp (disch := omega) only [I_is, I_cl, I_sl, J_is, J_cl, J_sl, R_is, R_cl, R_sl, mI_sJ, mI_sR, mJ_sI, mJ_sR, mR_sI, mR_sJ, sC_cl, sC_in, Nat.sub_zero, Nat.zero_add, Nat.mul_comm (60 * f + i) 16, and_self]
  case g => simp (disch := omega) only [I_is, I_cl, I_sl, J_is, J_cl, J_sl, R_is, R_cl, R_sl, mI_sJ, mI_sR, mJ_sI, mJ_sR, mR_sI, mR_sJ, sC_cl, n1]
  case h =>
    have z : ∀ a j, ldC u k a j → ¬ (thC u k a j ∨ a = 533 + 184 * u ∧ j = 6) := fun a j h => h
    refine ((((((Eqv.rf.sI ?_ _).sC ?_).sI ?_ _).sI ?_ _).sC ?_).sI ?_ _)
    · exact fun h => h (Or.inl (Or.inl ⟨rfl, by decide, by decide⟩))
    · exact fun q _ _ h => h (Or.inl (Or.inr (Or.inl rfl)))
    · exact fun h => h (Or.inl (Or.inl ⟨rfl, by decide, by decide⟩))
    · exact fun h => h (Or.inl (Or.inl ⟨rfl, by decide, by decide⟩))
    · exact fun q _ _ h => h (Or.inl (Or.inr (Or.inr rfl)))
    · exact fun h => h (Or.inr ⟨rfl, rfl⟩)
end LOAD
