/-- a fresh schema at r, in plain facts -/
theorem Stg.sch {ex : List Nat} {r nb : Nat} {G : Lay} {σ : Mem} (h : Stg ex r 7 nb (fun Ga σa Gb σb => Sch r Ga σa Gb σb) G σ) (hnb : nb = r + 255) (hex : ∀ a, r ≤ a → a ≤ nb → a ∉ ex) : gT G r = 7 ∧ (∀ (j : Nat) (q : Nat × Nat × Nat), scAs[j]? = some q → gT G (r + 1 + j) = q.2.1 ∧ gL G (r + 1 + j) = q.2.2 ∧ mR σ r q.1 = r + 1 + j) ∧ (∀ k, mI σ r k = 0) ∧
    (∀ j, j < 12 → mR σ (r + 1) j = r + 4 + 5 * j ∧ gT G (r + 4 + 5 * j) = 2 ∧ ∀ (k : Nat) (q : Nat × Nat × Nat), kAs[k]? = some q → gT G (r + 5 + 5 * j + k) = q.2.1 ∧ gL G (r + 5 + 5 * j + k) = q.2.2 ∧ mR σ (r + 4 + 5 * j) q.1 = r + 5 + 5 * j + k) ∧
    (∀ j, j < 192 → mR σ (r + 2) j = r + 64 + j ∧ gT G (r + 64 + j) = 3) := by
  obtain ⟨Ga, Gd, σa, σd, h0, h1, h2, ⟨Gb, Gc, σb, σc, hM, hL, hL2⟩, h4⟩ := h
  have n1 : gN Gb = r + 3 := by have : gN Gb = gN Ga + 3 := hM.2.1; omega
  have n2 : gN Gc = r + 63 := by have := hL.1; omega
  have hr1 := hM.1.2
  rw [h0] at hL hL2
  have up : ∀ a, r ≤ a → a ≤ nb → (gT G a = gT Gd a ∧ gL G a = gL Gd a) ∧ ∀ k, mI σ a k = mI σd a k ∧ mJ σ a k = mJ σd a k ∧ mR σ a k = mR σd a k := fun a h1 h2 => h4 a h2 (hex a h1 h2)
  refine ⟨?_, fun j q hq => ?_, fun k => ?_, fun j hj => ?_, fun j hj => ?_⟩
  · rw [(up r (Nat.le_refl _) (by omega)).1.1, (hL2.2.2.1 r (by omega)).1, (hL.2.2.1 r (by omega)).1]
    exact hM.kind h1
  · have hj : j < 3 := (List.getElem?_eq_some_iff.mp hq).1
    have m := hM.2.2.2.2.1 j q hq
    rw [h0] at m
    have e := up (r + 1 + j) (by omega) (by omega)
    have e2 := hL2.2.2.1 (r + 1 + j) (by omega)
    have e3 := hL.2.2.1 (r + 1 + j) (by omega)
    refine ⟨by rw [e.1.1, e2.1, e3.1]; exact m.1, by rw [e.1.2, e2.2, e3.2]; exact m.2.1, ?_⟩
    rw [((up r (Nat.le_refl _) (by omega)).2 q.1).2.2, hL2.2.2.2.2.1 r q.1 (by omega), if_neg (by omega), hL.2.2.2.2.1 r q.1 (by omega), if_neg (by omega)]
    exact m.2.2
  · rw [((up r (Nat.le_refl _) (by omega)).2 k).1, (hL2.2.2.2.1 r k (by omega)).1, (hL.2.2.2.1 r k (by omega)).1, hM.2.2.2.2.2.2.1 k (by simp)]
    exact (h2 k).1
  · obtain ⟨q1, q2, -⟩ := hL.2.2.2.2.2 j hj
    rw [n1] at q1 q2
    have eo : r + 3 + 1 + 5 * j = r + 4 + 5 * j := by omega
    rw [eo] at q1 q2
    refine ⟨?_, ?_, fun k q hq => ?_⟩
    · rw [((up (r + 1) (by omega) (by omega)).2 j).2.2, hL2.2.2.2.2.1 (r + 1) j (by omega), if_neg (by omega), hL.2.2.2.2.1 (r + 1) j (by omega), if_pos ⟨rfl, hj⟩, n1]
    · rw [(up (r + 4 + 5 * j) (by omega) (by omega)).1.1, (hL2.2.2.1 (r + 4 + 5 * j) (by omega)).1]
      exact q1
    · have hk : k < 4 := (List.getElem?_eq_some_iff.mp hq).1
      have m := q2 k q hq
      rw [show r + 4 + 5 * j + 1 + k = r + 5 + 5 * j + k by omega] at m
      have e := up (r + 5 + 5 * j + k) (by omega) (by omega)
      have e2 := hL2.2.2.1 (r + 5 + 5 * j + k) (by omega)
      refine ⟨by rw [e.1.1, e2.1]; exact m.1, by rw [e.1.2, e2.2]; exact m.2.1, ?_⟩
      rw [((up (r + 4 + 5 * j) (by omega) (by omega)).2 q.1).2.2, hL2.2.2.2.2.1 (r + 4 + 5 * j) q.1 (by omega), if_neg (by omega)]
      exact m.2.2
  · obtain ⟨q1, -⟩ := hL2.2.2.2.2.2 j hj
    rw [n2] at q1
    refine ⟨?_, ?_⟩
    · rw [((up (r + 2) (by omega) (by omega)).2 j).2.2, hL2.2.2.2.2.1 (r + 2) j (by omega), if_pos ⟨rfl, hj⟩, n2]
      omega
    · rw [(up (r + 64 + j) (by omega) (by omega)).1.1, show r + 64 + j = r + 63 + 1 + 1 * j by omega]
      exact q1
