/-- the fresh writing at r with the rows that it keeps aside, in plain facts -/
theorem Stg.wrt {ex : List Nat} {r nb rw : Nat} {G : Lay} {σ : Mem} (h : Stg ex r 11 nb (fun Ga σa Gb σb => Wrt r rw Ga σa Gb σb) G σ) (hnb : nb = r + 11) (hex : ∀ a, r ≤ a → a ≤ nb → a ∉ ex) : gT G r = 11 ∧ (∀ (j : Nat) (q : Nat × Nat × Nat), wAs[j]? = some q → gT G (r + 1 + j) = q.2.1 ∧ gL G (r + 1 + j) = q.2.2 ∧ mR σ r q.1 = r + 1 + j) ∧ (∀ q ∈ wNs, mI σ r q.1 = q.2) ∧ (∀ k, k ∉ wNs.map (·.1) → mI σ r k = 0) ∧ mR σ r 0 = rw ∧ mR σ r 1 = r + 6 ∧ gT G (r + 6) = 6 ∧
    (∀ (j : Nat) (q : Nat × Nat × Nat), rwAs[j]? = some q → gT G (r + 7 + j) = q.2.1 ∧ gL G (r + 7 + j) = q.2.2 ∧ mR σ (r + 6) q.1 = r + 7 + j) := by
  obtain ⟨Ga, Gd, σa, σd, h0, h1, h2, ⟨Gb, σb, σc, hM, hM2, hσ⟩, h4⟩ := h
  have n1 : gN Gb = r + 5 := by have : gN Gb = gN Ga + 5 := hM.2.1; omega
  have up : ∀ a, r ≤ a → a ≤ nb → (gT G a = gT Gd a ∧ gL G a = gL Gd a) ∧ ∀ k, mI σ a k = mI σd a k ∧ mJ σ a k = mJ σd a k ∧ mR σ a k = mR σd a k := fun a h1 h2 => h4 a h2 (hex a h1 h2)
  subst hσ
  have low : ∀ a, r ≤ a → a ≤ r + 5 → (gT G a = gT Gb a ∧ gL G a = gL Gb a) ∧ ∀ k, mI σ a k = mI σb a k ∧ (a ≠ r ∨ k ≠ 1 → mR σ a k = mR σb a k) := by
    intro a ha1 ha2
    have e := up a ha1 (by omega)
    have e2 := hM2.2.2.2.1 a (by rw [gN_A]; omega)
    rw [gT_A, gL_A, if_neg (by omega), if_neg (by omega)] at e2
    refine ⟨⟨e.1.1.trans e2.1, e.1.2.trans e2.2⟩, fun k => ?_⟩
    have e3 := hM2.2.2.2.2.2.2.2.2.2.2.1 a k (by rw [gN_A]; omega) (by omega)
    rw [mI_sZ, mJ_sZ, mR_sZ, if_neg (by omega), if_neg (by omega), if_neg (by omega)] at e3
    refine ⟨(e.2 k).1.trans (by rw [mI_sR]; exact e3.1), fun hk => (e.2 k).2.2.trans ?_⟩
    rw [mR_sR, if_neg (by omega)]
    exact e3.2.2
  have hr := low r (Nat.le_refl _) (by omega)
  refine ⟨?_, fun j q hq => ?_, fun q hq => ?_, fun k hk => ?_, ?_, ?_, ?_, fun j q hq => ?_⟩
  · rw [hr.1.1]
    exact hM.kind h1
  · have hj : j < 5 := (List.getElem?_eq_some_iff.mp hq).1
    have m := hM.2.2.2.2.1 j q hq
    rw [h0] at m
    have e := low (r + 1 + j) (by omega) (by omega)
    have hq1 : q.1 ≠ 1 := by
      have key : ∀ q ∈ wAs, q.1 ≠ 1 := by decide
      exact key q (List.mem_of_getElem? hq)
    refine ⟨e.1.1.trans m.1, e.1.2.trans m.2.1, ((hr.2 q.1).2 (Or.inr hq1)).trans m.2.2⟩
  · exact (hr.2 q.1).1.trans (hM.2.2.2.2.2.1 q hq)
  · exact (hr.2 k).1.trans ((hM.2.2.2.2.2.2.1 k hk).trans (h2 k).1)
  · exact ((hr.2 0).2 (Or.inr (by decide))).trans (hM.2.2.2.2.2.2.2.1 (0, rw) (by simp))
  · rw [((up r (Nat.le_refl _) (by omega)).2 1).2.2, mR_sR, if_pos ⟨rfl, rfl⟩]
    omega
  · rw [(up (r + 6) (by omega) (by omega)).1.1]
    have e := (hM2.2.2.2.1 (r + 6) (by rw [gN_A]; omega)).1
    rw [e, gT_A, if_pos (by omega)]
  · have hj : j < 5 := (List.getElem?_eq_some_iff.mp hq).1
    have m := hM2.2.2.2.2.1 j q hq
    rw [gN_A, n1, show r + 5 + 1 + 1 + j = r + 7 + j by omega, show r + 5 + 1 = r + 6 by omega] at m
    have e := up (r + 7 + j) (by omega) (by omega)
    refine ⟨e.1.1.trans m.1, e.1.2.trans m.2.1, ?_⟩
    rw [((up (r + 6) (by omega) (by omega)).2 q.1).2.2, mR_sR, if_neg (by omega)]
    exact m.2.2
