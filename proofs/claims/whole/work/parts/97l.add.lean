section ADD
variable {G : Lay} {nn sc n r0 r1 w : Nat} {mc rt hc K N N1 us : Nat → Nat} {κ κ' κ0 ρ ρ' ρ0 κ1 ρ1 : Mem} {u k f q : Nat}
/-- a row of the class, as another was -/
def rwE (κ κ' : Mem) (j i : Nat) : Prop := mI κ' 271 j = mI κ 271 i ∧ mI κ' 272 j = mI κ 272 i ∧ mI κ' 273 j = mI κ 273 i ∧ ∀ m, m < 16 → mI κ' 274 (16 * j + m) = mI κ 274 (16 * i + m)
theorem rwE.row (h : rwE κ κ' (60 * f + q) (60 * f + k)) {r r' : Nat} (hr : RowR κ ρ f k r) (e : mI ρ' 1305 r' = mI ρ 1305 r ∧ mI ρ' 1306 r' = mI ρ 1306 r ∧ mI ρ' 1307 r' = mI ρ 1307 r ∧ mI ρ' 1308 r' = mI ρ 1308 r ∧ ∀ m, m < 16 → mI ρ' 1309 (16 * r' + m) = mI ρ 1309 (16 * r + m)) : RowR κ' ρ' f q r' := by
  obtain ⟨a1, a2, a3, a4, a5⟩ := hr
  obtain ⟨b1, b2, b3, b4⟩ := h
  obtain ⟨e1, e2, e3, e4, e5⟩ := e
  exact ⟨e1.trans a1, by rw [b1, e2, a2], by rw [b2, e3, a3], by rw [b3, e4, a4], fun m hm => by rw [b4 m hm, e5 m hm, a5 m hm]⟩
theorem sum_up (hf : f < 12) (v : Nat) : sum12 (upN N f v) + N f = sum12 N + v := by
  have h : f = 0 ∨ f = 1 ∨ f = 2 ∨ f = 3 ∨ f = 4 ∨ f = 5 ∨ f = 6 ∨ f = 7 ∨ f = 8 ∨ f = 9 ∨ f = 10 ∨ f = 11 := by omega
  rcases h with rfl | rfl | rfl | rfl | rfl | rfl | rfl | rfl | rfl | rfl | rfl | rfl <;> (simp [sum12, upN]; omega)
theorem RelR.ins (xR : RelR N r0 κ ρ) (hf : f < 12) (hN : N f < 60) (hq : q ≤ N f) {X Cc V : Int32} {vs : Nat → Int32}
    (c1 : mI κ' 270 f = nI (N f + 1)) (c2 : ∀ g, g < 12 → g ≠ f → mI κ' 270 g = mI κ 270 g) (c3 : ∀ g, g < 12 → g ≠ f → ∀ i, i < 60 → rwE κ κ' (60 * g + i) (60 * g + i)) (c4 : ∀ i, i < q → rwE κ κ' (60 * f + i) (60 * f + i)) (c5 : ∀ i, q ≤ i → i < N f → rwE κ κ' (60 * f + (i + 1)) (60 * f + i)) (c6 : mI κ' 271 (60 * f + q) = X ∧ mI κ' 272 (60 * f + q) = Cc ∧ mI κ' 273 (60 * f + q) = V ∧ ∀ m, m < 16 → mI κ' 274 (16 * (60 * f + q) + m) = vs m)
    (s1 : ∀ i, i < q → mI κ 271 (60 * f + i) < X) (s2 : ∀ i, q ≤ i → i < N f → X < mI κ 271 (60 * f + i))
    (m1 : mI ρ' 1282 26 = nI (r0 + 1)) (m2 : ∀ r, r < r0 → mI ρ' 1305 r = mI ρ 1305 r ∧ mI ρ' 1306 r = mI ρ 1306 r ∧ mI ρ' 1307 r = mI ρ 1307 r ∧ mI ρ' 1308 r = mI ρ 1308 r ∧ ∀ m, m < 16 → mI ρ' 1309 (16 * r + m) = mI ρ 1309 (16 * r + m)) (m3 : mI ρ' 1305 r0 = nI f ∧ mI ρ' 1306 r0 = X ∧ mI ρ' 1307 r0 = Cc ∧ mI ρ' 1308 r0 = V ∧ ∀ m, m < 16 → mI ρ' 1309 (16 * r0 + m) = vs m) : RelR (upN N f (N f + 1)) (r0 + 1) κ' ρ' := by
  obtain ⟨x1, x2, x3, x4, x5, x6, x7, x8⟩ := xR
  have newR : RowR κ' ρ' f q r0 := ⟨m3.1, c6.1.trans m3.2.1.symm, c6.2.1.trans m3.2.2.1.symm, c6.2.2.1.trans m3.2.2.2.1.symm, fun m hm => (c6.2.2.2 m hm).trans (m3.2.2.2.2 m hm).symm⟩
  have key : ∀ i, i < N f → mI κ 271 (60 * f + i) ≠ X := fun i hi e => by
    by_cases h : i < q
    · have := s1 i h; rw [e] at this; exact Int32.lt_irrefl this
    · have := s2 i (by omega) hi; rw [e] at this; exact Int32.lt_irrefl this
  refine ⟨fun g hg => ?_, m1, ?_, fun g hg i j hij hj => ?_, fun g hg i hi => ?_, fun r hr => ?_, fun r r' hr hr' e1 e2 => ?_, fun g hg => ?_⟩
  · by_cases e : g = f
    · subst e; rw [upN_is]; exact ⟨c1, by omega⟩
    · rw [upN_ne e, c2 g hg e]; exact x1 g hg
  · have := sum_up (N := N) hf (N f + 1)
    omega
  · by_cases e : g = f
    · subst e
      rw [upN_is] at hj
      have kv : ∀ i, i ≤ N g → mI κ' 271 (60 * g + i) = if i < q then mI κ 271 (60 * g + i) else if i = q then X else mI κ 271 (60 * g + (i - 1)) := fun i hi => by
        by_cases a : i < q
        · rw [if_pos a]; exact (c4 i a).1
        · rw [if_neg a]
          by_cases b : i = q
          · rw [if_pos b, b]; exact c6.1
          · rw [if_neg b]
            have := (c5 (i - 1) (by omega) (by omega)).1
            rw [show i - 1 + 1 = i by omega] at this
            exact this
      rw [kv i (by omega), kv j (by omega)]
      by_cases a : i < q
      · rw [if_pos a]
        by_cases b : j < q
        · rw [if_pos b]; exact x4 g hg i j hij (by omega)
        · rw [if_neg b]
          by_cases d : j = q
          · rw [if_pos d]; exact s1 i a
          · rw [if_neg d]; exact x4 g hg i (j - 1) (by omega) (by omega)
      · rw [if_neg a, if_neg (show ¬ j < q by omega), if_neg (show ¬ j = q by omega)]
        by_cases d : i = q
        · rw [if_pos d]; exact s2 (j - 1) (by omega) (by omega)
        · rw [if_neg d]; exact x4 g hg (i - 1) (j - 1) (by omega) (by omega)
    · rw [upN_ne e] at hj
      have h60 := (x1 g hg).2
      rw [(c3 g hg e i (by omega)).1, (c3 g hg e j (by omega)).1]
      exact x4 g hg i j hij hj
  · by_cases e : g = f
    · subst e
      rw [upN_is] at hi
      by_cases a : i < q
      · obtain ⟨r, r1, r2⟩ := x5 g hg i (by omega)
        exact ⟨r, by omega, (c4 i a).row r2 (m2 r r1)⟩
      · by_cases b : i = q
        · rw [b]; exact ⟨r0, by omega, newR⟩
        · obtain ⟨r, r1, r2⟩ := x5 g hg (i - 1) (by omega)
          have := c5 (i - 1) (by omega) (by omega)
          rw [show i - 1 + 1 = i by omega] at this
          exact ⟨r, by omega, this.row r2 (m2 r r1)⟩
    · rw [upN_ne e] at hi
      have h60 := (x1 g hg).2
      obtain ⟨r, r1, r2⟩ := x5 g hg i hi
      exact ⟨r, by omega, (c3 g hg e i (by omega)).row r2 (m2 r r1)⟩
  · by_cases er : r = r0
    · subst er
      exact ⟨f, hf, q, by rw [upN_is]; omega, newR⟩
    · obtain ⟨g, hg, i, hi, r2⟩ := x6 r (by omega)
      have h60 := (x1 g hg).2
      by_cases e : g = f
      · subst e
        by_cases a : i < q
        · exact ⟨g, hg, i, by rw [upN_is]; omega, (c4 i a).row r2 (m2 r (by omega))⟩
        · exact ⟨g, hg, i + 1, by rw [upN_is]; omega, (c5 i (by omega) hi).row r2 (m2 r (by omega))⟩
      · exact ⟨g, hg, i, by rw [upN_ne e]; exact hi, (c3 g hg e i (by omega)).row r2 (m2 r (by omega))⟩
  · have old : ∀ r, r < r0 → ¬ (mI ρ' 1305 r = mI ρ' 1305 r0 ∧ mI ρ' 1306 r = mI ρ' 1306 r0) := fun r hr => by
      rintro ⟨a1, a2⟩
      rw [(m2 r hr).1, m3.1] at a1
      rw [(m2 r hr).2.1, m3.2.1] at a2
      obtain ⟨g, hg, i, hi, b1, b2, -⟩ := x6 r hr
      have eg : g = f := (eI (by omega) (by omega)).mp (b1.symm.trans a1)
      subst eg
      exact key i hi (b2.trans a2)
    by_cases a : r = r0
    · by_cases b : r' = r0
      · omega
      · subst a; exact absurd ⟨e1.symm, e2.symm⟩ (old r' (by omega))
    · by_cases b : r' = r0
      · subst b; exact absurd ⟨e1, e2⟩ (old r (by omega))
      · rw [(m2 r (by omega)).1, (m2 r' (by omega)).1] at e1
        rw [(m2 r (by omega)).2.1, (m2 r' (by omega)).2.1] at e2
        exact x7 r r' (by omega) (by omega) e1 e2
  · show cnt (fun r => mI ρ' 1305 r) (nI g) r0 + (if mI ρ' 1305 r0 = nI g then 1 else 0) = _
    rw [cnt_cg (g := fun r => mI ρ' 1305 r) (h := fun r => mI ρ 1305 r) r0 (fun r hr => (m2 r hr).1), x8 g hg, m3.1]
    by_cases e : g = f
    · subst e; rw [if_pos rfl, upN_is]
    · rw [upN_ne e, if_neg (fun h => e ((eI (by omega) (by omega)).mp h).symm)]; rfl
/-- where a key belongs in a family -/
theorem RelR.place (xR : RelR N r0 κ ρ) (hf : f < 12) {X : Int32} (hX : ∀ i, i < N f → mI κ 271 (60 * f + i) ≠ X) : ∃ q, q ≤ N f ∧ (∀ i, i < q → mI κ 271 (60 * f + i) < X) ∧ ∀ i, q ≤ i → i < N f → X < mI κ 271 (60 * f + i) := by
  have key : ∀ d, d ≤ N f → ∃ q, q ≤ d ∧ (∀ i, i < q → mI κ 271 (60 * f + i) < X) ∧ ∀ i, q ≤ i → i < d → X < mI κ 271 (60 * f + i) := by
    intro d
    induction d with
    | zero => exact fun _ => ⟨0, Nat.le_refl _, fun i h => by omega, fun i _ h => by omega⟩
    | succ d ih =>
      intro hd
      obtain ⟨q, q1, q2, q3⟩ := ih (by omega)
      by_cases e : X < mI κ 271 (60 * f + d)
      · refine ⟨q, by omega, q2, fun i h1 h2 => ?_⟩
        by_cases ei : i = d
        · rw [ei]; exact e
        · exact q3 i h1 (by omega)
      · have lt : mI κ 271 (60 * f + d) < X := by
          rcases Int32.lt_or_eq_of_le (Int32.not_lt.mp e) with h | h
          · exact h
          · exact absurd h (hX d (by omega))
        refine ⟨d + 1, Nat.le_refl _, fun i h1 => ?_, fun i h1 h2 => by omega⟩
        by_cases ei : i = d
        · rw [ei]; exact lt
        · exact Int32.lt_trans (xR.2.2.2.1 f hf i d (by omega) (by omega)) lt
  exact key (N f) (Nat.le_refl _)
theorem c_endO2 (hL : LyC G) (hC : StC κ) (hf : f < 12) (eN : mI κ 270 f = nI (N f)) {Q : Int32 → Mem → Prop} (q : Q (nI (60 * f + N f)) (mg κ ρ1)) : X_X5_endOf G Q 13 (nI f) (mg κ ρ1) := by
  have n12 : (12 : Int32) = nI 12 := rfl
  have n60 : (60 : Int32) = nI 60 := rfl
  simp (disch := omega) only [X_X5_endOf_25, X_X5_endOf_10, X_X5_endOf_0, X_X5_endOf, n12, n60, pk_mul, nI_add, mI_c, mR_c, mJ_c, sI_c, sJ_c, sR_c, hL.1, hL.2.1, hL.2.2, hC.1, hC.2.1, hC.2.2.1, lT, lF, tT, tF, eF, pF, zT, m1F, vT, cI, true_and, and_true, true_implies, false_implies, not_false_eq_true, not_true_eq_false, forall_eq, implies_true, eN, Nat.mul_comm f 60]
  exact q
theorem c_firstO2 (hf : f < 12) {Q : Int32 → Mem → Prop} (q : Q (nI (60 * f)) (mg κ ρ1)) : X_X5_firstOf G Q 13 (nI f) (mg κ ρ1) := by
  have n12 : (12 : Int32) = nI 12 := rfl
  have n60 : (60 : Int32) = nI 60 := rfl
  simp (disch := omega) only [X_X5_firstOf_18, X_X5_firstOf_10, X_X5_firstOf_0, X_X5_firstOf, n12, n60, pk_mul, lT, lF, tT, tF, eF, pF, zT, m1F, vT, cI, true_and, and_true, true_implies, false_implies, not_false_eq_true, not_true_eq_false, forall_eq, implies_true, Nat.mul_comm f 60]
  exact q
/-- the class's rows in a family move -/
def mvC (κ : Mem) (a b n : Nat) : Mem := sC (sC (sC (sC κ 271 a 271 b n) 272 a 272 b n) 273 a 273 b n) 274 (a * 16) 274 (b * 16) (n * 16)
theorem c_move (hL : LyC G) (hC : StC κ) {a b n : Nat} (h1 : a + n ≤ 720) (h2 : b + n ≤ 720) {Q : Mem → Prop} (q : Q (mg (mvC κ a b n) ρ1)) : X_X5_move G Q 13 (nI a) (nI b) (nI n) (mg κ ρ1) := by
  obtain ⟨⟨d1, -, -⟩, ⟨-, d5, d6, d7, d8⟩, ⟨-, d10, d11, d12, d13⟩, d14⟩ := RwS.a hL
  obtain ⟨-, z2, z3, z4, z5⟩ := d14 κ hC
  have n16 : (16 : Int32) = nI 16 := rfl
  simp (disch := omega) only [X_X5_move, X_X5_move_0, n16, pk_mul, mI_c, mR_c, sC_c, d1, d5, d6, d7, d8, z2, z3, z4, z5, sC_R, cpTT, lT, lF, tT, tF, eF, pF, zT, m1F, vT, cI, true_and, and_true, true_implies, false_implies, not_false_eq_true, not_true_eq_false, forall_eq, implies_true]
  exact q
theorem mvC_I {a b n : Nat} {c j : Nat} (h : c < 271 ∨ 274 < c) : mI (mvC κ a b n) c j = mI κ c j := by
  unfold mvC
  rw [sC_cl (by omega), sC_cl (by omega), sC_cl (by omega), sC_cl (by omega)]
theorem mvC_in {a b n i : Nat} (h : i < n) : rwE κ (mvC κ a b n) (b + i) (a + i) := by
  unfold mvC
  refine ⟨?_, ?_, ?_, fun m hm => ?_⟩
  · rw [sC_cl (by decide), sC_cl (by decide), sC_cl (by decide), sC_in (by omega) (by omega)]
    congr 1; omega
  · rw [sC_cl (by decide), sC_cl (by decide), sC_in (by omega) (by omega), sC_cl (by decide)]
    congr 1; omega
  · rw [sC_cl (by decide), sC_in (by omega) (by omega), sC_cl (by decide), sC_cl (by decide)]
    congr 1; omega
  · rw [sC_in (by omega) (by omega), sC_cl (by decide), sC_cl (by decide), sC_cl (by decide)]
    congr 1; omega
theorem mvC_out {a b n j : Nat} (h : j < b ∨ b + n ≤ j) : rwE κ (mvC κ a b n) j j := by
  unfold mvC
  refine ⟨?_, ?_, ?_, fun m hm => ?_⟩
  · rw [sC_cl (by decide), sC_cl (by decide), sC_cl (by decide), sC_out (by omega)]
  · rw [sC_cl (by decide), sC_cl (by decide), sC_out (by omega), sC_cl (by decide)]
  · rw [sC_cl (by decide), sC_out (by omega), sC_cl (by decide), sC_cl (by decide)]
  · rw [sC_out (by omega), sC_cl (by decide), sC_cl (by decide), sC_cl (by decide)]
theorem StC.mv (h : StC κ) (a b n : Nat) : StC (mvC κ a b n) := (((h.wC _ _ _ _ _).wC _ _ _ _ _).wC _ _ _ _ _).wC _ _ _ _ _
theorem Eqv.mv {S : Nat → Nat → Prop} (a b n : Nat) (h : ∀ c k, 271 ≤ c → c ≤ 274 → ¬ S c k) : Eqv S κ (mvC κ a b n) := by
  refine (((Eqv.rf.sC ?_).sC ?_).sC ?_).sC ?_ <;> exact fun k _ _ => h _ _ (by decide) (by decide)
theorem c_add (hL : LyC G) (hC : StC κ) (hf : f < 12) (eN : mI κ 270 f = nI (N f)) (hN : N f < 60) {X Cc : Int32} (hq : q ≤ N f) (s1 : ∀ i, i < q → mI κ 271 (60 * f + i) < X) (s2 : ∀ i, q ≤ i → i < N f → X < mI κ 271 (60 * f + i)) {Q : Int32 → Mem → Prop} (k : Q (nI (60 * f + q)) (mg (sI (sI (sI (sI (mvC κ (60 * f + q) (60 * f + q + 1) (N f - q)) 270 f (nI (N f + 1))) 271 (60 * f + q) X) 272 (60 * f + q) Cc) 273 (60 * f + q) 1) ρ1)) : X_X5_add G Q 13 (nI f) X Cc (mg κ ρ1) := by
  simp (disch := omega) only [X_X5_add, X_X5_add_0, hL.1, true_and]
  refine c_endO2 hL hC hf eN ?_
  unfold X_X5_add_7
  refine Lw.nat (N f - q) (fun i y => y = (nI (60 * f + (N f - i)), mg κ ρ1)) ?_ 0 (by omega) _ rfl
  rintro K' i y hi rfl hk'
  simp (disch := omega) only [X_X5_add_7_s, hL.1, true_and]
  refine c_firstO2 hf ?_
  by_cases h : i < N f - q
  · have lt := s2 (N f - i - 1) (by omega) (by omega)
    have e1 : 60 * f + (N f - i) - 1 = 60 * f + (N f - i - 1) := by omega
    simp (disch := omega) only [mI_c, mR_c, mJ_c, sI_c, sJ_c, sR_c, hL.1, hL.2.1, hL.2.2, hC.1, hC.2.1, hC.2.2.1, lT, lF, tT, tF, eF, pF, zT, m1F, vT, cI, true_and, and_true, true_implies, false_implies, not_false_eq_true, not_true_eq_false, forall_eq, implies_true, s1I, d1I, e1]
    refine brF (fun z => Int32.lt_irrefl (Int32.lt_of_lt_of_le lt z)) (hk' _ h ?_)
    rw [show 60 * f + (N f - (i + 1)) = 60 * f + (N f - i - 1) by omega]
  · obtain rfl : i = N f - q := by omega
    rw [show N f - (N f - q) = q by omega]
    have fin : X_X5_add_36 G Q 13 (nI f) X Cc (nI (60 * f + q)) (mg κ ρ1) := by
      simp (disch := omega) only [X_X5_add_36, hL.1, true_and]
      refine c_endO2 hL hC hf eN ?_
      rw [pk_sub (by omega), nI_1, show 60 * f + N f - (60 * f + q) = N f - q by omega]
      refine c_move hL hC (by omega) (by omega) ?_
      have hC' := hC.mv (60 * f + q) (60 * f + q + 1) (N f - q)
      have e270 : mI (mvC κ (60 * f + q) (60 * f + q + 1) (N f - q)) 270 f = nI (N f) := by rw [mvC_I (Or.inl (by decide))]; exact eN
      simp (disch := omega) only [mI_c, mR_c, sI_c, hL.1, hC'.1, lT, lF, tT, tF, eF, pF, zT, m1F, vT, cI, true_and, and_true, true_implies, false_implies, not_false_eq_true, not_true_eq_false, forall_eq, implies_true, mR_sI, e270, nI_1]
      exact k
    by_cases q0 : q = 0
    · subst q0
      exact brT (Int32.le_refl _) fin
    · have lt := s1 (q - 1) (by omega)
      have e1 : 60 * f + q - 1 = 60 * f + (q - 1) := by omega
      simp (disch := omega) only [mI_c, mR_c, mJ_c, sI_c, sJ_c, sR_c, hL.1, hL.2.1, hL.2.2, hC.1, hC.2.1, hC.2.2.1, lT, lF, tT, tF, eF, pF, zT, m1F, vT, cI, true_and, and_true, true_implies, false_implies, not_false_eq_true, not_true_eq_false, forall_eq, implies_true, s1I, d1I, e1]
      exact brT (Int32.le_of_lt lt) fin
end ADD
