/-- a fresh unit at r, in plain facts -/
theorem Stg.unt {ex : List Nat} {r nb rw : Nat} {num : Int32} {G : Lay} {σ : Mem} (h : Stg ex r 10 nb (fun Ga σa Gb σb => Unt r num rw Ga σa Gb σb) G σ) (hnb : nb = r + 183) (hex : ∀ a, r ≤ a → a ≤ nb → a ∉ ex) : gT G r = 10 ∧ (∀ (j : Nat) (q : Nat × Nat × Nat), uAs[j]? = some q → gT G (r + 1 + j) = q.2.1 ∧ gL G (r + 1 + j) = q.2.2 ∧ mR σ r q.1 = r + 1 + j) ∧ (∀ k, mI σ r k = 0) ∧ mR σ r 0 = rw ∧
    (∀ j, j < 60 → mR σ (r + 1) j = r + 4 + 3 * j ∧ gT G (r + 4 + 3 * j) = 8 ∧ mI σ (r + 4 + 3 * j) 0 = num * 100 + nI j ∧ (∀ k, k ≠ 0 → mI σ (r + 4 + 3 * j) k = 0) ∧ ∀ (k : Nat) (q : Nat × Nat × Nat), tAs[k]? = some q → gT G (r + 5 + 3 * j + k) = q.2.1 ∧ gL G (r + 5 + 3 * j + k) = q.2.2 ∧ mR σ (r + 4 + 3 * j) q.1 = r + 5 + 3 * j + k) := by
  obtain ⟨Ga, Gd, σa, σd, h0, h1, h2, ⟨Gb, σb, hM, hL⟩, h4⟩ := h
  have n1 : gN Gb = r + 3 := by have : gN Gb = gN Ga + 3 := hM.2.1; omega
  rw [h0] at hL
  have up : ∀ a, r ≤ a → a ≤ nb → (gT G a = gT Gd a ∧ gL G a = gL Gd a) ∧ ∀ k, mI σ a k = mI σd a k ∧ mJ σ a k = mJ σd a k ∧ mR σ a k = mR σd a k := fun a h1 h2 => h4 a h2 (hex a h1 h2)
  refine ⟨?_, fun j q hq => ?_, fun k => ?_, ?_, fun j hj => ?_⟩
  · rw [(up r (Nat.le_refl _) (by omega)).1.1, (hL.2.2.1 r (by omega)).1]
    exact hM.kind h1
  · have hj : j < 3 := (List.getElem?_eq_some_iff.mp hq).1
    have m := hM.2.2.2.2.1 j q hq
    rw [h0] at m
    have e := up (r + 1 + j) (by omega) (by omega)
    have e3 := hL.2.2.1 (r + 1 + j) (by omega)
    refine ⟨by rw [e.1.1, e3.1]; exact m.1, by rw [e.1.2, e3.2]; exact m.2.1, ?_⟩
    rw [((up r (Nat.le_refl _) (by omega)).2 q.1).2.2, hL.2.2.2.2.1 r q.1 (by omega), if_neg (by omega)]
    exact m.2.2
  · rw [((up r (Nat.le_refl _) (by omega)).2 k).1, (hL.2.2.2.1 r k (by omega)).1, hM.2.2.2.2.2.2.1 k (by simp)]
    exact (h2 k).1
  · rw [((up r (Nat.le_refl _) (by omega)).2 0).2.2, hL.2.2.2.2.1 r 0 (by omega), if_neg (by omega)]
    exact hM.2.2.2.2.2.2.2.1 (0, rw) (by simp)
  · obtain ⟨q1, q2, q3, -, q5, -⟩ := hL.2.2.2.2.2 j hj
    rw [n1] at q1 q2 q3 q5
    have eo : r + 3 + 1 + 3 * j = r + 4 + 3 * j := by omega
    rw [eo] at q1 q2 q3 q5
    refine ⟨?_, ?_, ?_, fun k hk => ?_, fun k q hq => ?_⟩
    · rw [((up (r + 1) (by omega) (by omega)).2 j).2.2, hL.2.2.2.2.1 (r + 1) j (by omega), if_pos ⟨rfl, hj⟩, n1]
    · rw [(up (r + 4 + 3 * j) (by omega) (by omega)).1.1]
      exact q1
    · rw [((up (r + 4 + 3 * j) (by omega) (by omega)).2 0).1]
      exact q3 (0, num * 100 + nI j) (by simp)
    · rw [((up (r + 4 + 3 * j) (by omega) (by omega)).2 k).1]
      exact q5 k (by simpa using hk)
    · have hk : k < 2 := (List.getElem?_eq_some_iff.mp hq).1
      have m := q2 k q hq
      rw [show r + 4 + 3 * j + 1 + k = r + 5 + 3 * j + k by omega] at m
      have e := up (r + 5 + 3 * j + k) (by omega) (by omega)
      refine ⟨by rw [e.1.1]; exact m.1, by rw [e.1.2]; exact m.2.1, ?_⟩
      rw [((up (r + 4 + 3 * j) (by omega) (by omega)).2 q.1).2.2]
      exact m.2.2
