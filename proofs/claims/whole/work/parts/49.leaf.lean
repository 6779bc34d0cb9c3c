/-! leaves over the schema -/
section LEAF
variable {G : Lay} {κ ρ : Mem} {sc n : Nat} {Q : Int32 → Mem → Prop}
theorem c_isOf {p : Nat → Int32} (hsc : sc = 14 ∨ sc = 275) (hT : LyS G sc) (hK : StS sc κ) (hn : mI κ sc 0 = nI n) (h12 : n ≤ 12) (hp : ∀ c, c < n → mI κ (sc + 4 + 5 * c) 1 = p c) (hw : ParW p n) {c d : Nat} (hc : c < n) (hd : d < 2147483648) (k1 : isa p c d = true → Q 1 (mg κ ρ)) (k0 : isa p c d = false → Q 0 (mg κ ρ)) : X_X6_isOf G Q sc (nI c) (nI d) (mg κ ρ) := by
  unfold X_X6_isOf X_X6_isOf_0 X_X6_isOf_5
  refine Lw.nat 12 (fun i x => (∃ k, k + i ≤ c ∧ x = (nI k, nI i, mg κ ρ) ∧ isa p k d = isa p c d) ∨ (x = (-1, nI i, mg κ ρ) ∧ isa p c d = false)) ?_ 0 (by omega) _ (Or.inl ⟨c, by omega, rfl, rfl⟩)
  rintro K i x hi (⟨k, hki, rfl, hk⟩ | ⟨rfl, hk⟩) hK2
  · simp (disch := omega) only [X_X6_isOf_5_s, X_X6_isOf_47, nls, lF, lT, pF, mI_c, mR_c, hK.1, hK.2.1, hT.1, hT.2.1, hn, cI, vT, true_and, and_true, true_implies, false_implies, not_false_eq_true, not_true_eq_false, bzT1, bzT0, hp, nI_1]
    refine ⟨fun e => k1 ?_, fun e => ?_⟩
    · rw [← hk, (eI (by omega) hd).mp e]
      exact isa_self _ _
    · have hne : k ≠ d := fun z => e (by rw [z])
      refine hK2 _ (by omega) ?_
      rcases hw k (by omega) with e1 | ⟨q, hq, e1⟩
      · refine Or.inr ⟨by rw [e1], ?_⟩
        rw [← hk, isa_root e1 hne]
      · refine Or.inl ⟨q, by omega, by rw [e1], ?_⟩
        rw [← hk, isa_up hw h12 (by omega) hq e1 hne]
  · simp (disch := omega) only [X_X6_isOf_5_s, X_X6_isOf_47, m10, true_and, and_true, true_implies, false_implies, not_false_eq_true, not_true_eq_false, bzT0]
    exact ⟨fun _ => k0 hk, fun _ => k0 hk⟩
theorem c_rowOf (hL : LyC G) (hC : StC κ) {N : Nat → Nat} (hN : ∀ f, f < 12 → mI κ 270 f = nI (N f) ∧ N f ≤ 60) {f : Nat} (hf : f < 12) (x : Int32) (k1 : ∀ i, i < N f → mI κ 271 (60 * f + i) = x → Q (nI (60 * f + i)) (mg κ ρ)) (k0 : (∀ i, i < N f → mI κ 271 (60 * f + i) ≠ x) → Q (-1) (mg κ ρ)) : X_X5_rowOf G Q 13 (nI f) x (mg κ ρ) := by
  have h60 := (hN f hf).2
  simp (disch := omega) only [X_X5_rowOf, X_X5_rowOf_0, X_X5_rowOf_10, X_X5_rowOf_20, nls, pF, tT, pk_mul, true_and, and_true, true_implies, false_implies, not_false_eq_true, not_true_eq_false]
  refine Lw.find (N f) (fun i => mI κ 271 (60 * f + i) = x) (fun K i hi hj hk => ?_)
  simp (disch := omega) only [X_X5_rowOf_20_s, mI_c, mR_c, hC.1, hL.1, (hN f hf).1, cI, vT, true_and, nI_add, nI_1, lI]
  refine ⟨fun e => k0 (fun j hlt => hj j (by omega)), fun e => ?_⟩
  simp (disch := omega) only [cI, vT, true_and, Nat.mul_comm f 60]
  exact ⟨fun e1 => k1 i (by omega) e1, fun e1 => hk (by omega) e1⟩
end LEAF
