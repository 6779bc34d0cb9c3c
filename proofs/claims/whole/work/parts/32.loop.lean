/-- a loop that makes objects of kind t (z0 slots each, by a constructor that makes the arrays 'as' and puts the ints nf i) and puts them into the array cell A: j are made since (G1, σ1); w cells, z slots each -/
def Lo (A w z t : Nat) (as : List (Nat × Nat × Nat)) (nf : Nat → List (Nat × Int32)) (rf : List (Nat × Nat)) (G1 : Lay) (σ1 : Mem) (j : Nat) (G : Lay) (σ : Mem) : Prop :=
  gN G = gN G1 + w * j ∧ gZ G = gZ G1 + z * j ∧ (∀ a, a ≤ gN G1 → gT G a = gT G1 a ∧ gL G a = gL G1 a) ∧
  (∀ a k, a ≤ gN G1 → mI σ a k = mI σ1 a k ∧ mJ σ a k = mJ σ1 a k) ∧
  (∀ a k, a ≤ gN G1 → mR σ a k = if a = A ∧ k < j then gN G1 + 1 + w * k else mR σ1 a k) ∧
  (∀ i, i < j → gT G (gN G1 + 1 + w * i) = t ∧
    (∀ (k : Nat) (q : Nat × Nat × Nat), as[k]? = some q → gT G (gN G1 + 1 + w * i + 1 + k) = q.2.1 ∧ gL G (gN G1 + 1 + w * i + 1 + k) = q.2.2 ∧ mR σ (gN G1 + 1 + w * i) q.1 = gN G1 + 1 + w * i + 1 + k) ∧
    (∀ q ∈ nf i, mI σ (gN G1 + 1 + w * i) q.1 = q.2) ∧ (∀ q ∈ rf, mR σ (gN G1 + 1 + w * i) q.1 = q.2) ∧ (∀ k, k ∉ (nf i).map (·.1) → mI σ (gN G1 + 1 + w * i) k = 0) ∧
    (∀ a k, gN G1 + 1 + w * i < a → a ≤ gN G1 + w * i + w → mI σ a k = 0) ∧ (∀ a k, gN G1 + 1 + w * i ≤ a → a ≤ gN G1 + w * i + w → mJ σ a k = 0))
theorem Lo.rf {A w z t : Nat} {as : List (Nat × Nat × Nat)} {nf : Nat → List (Nat × Int32)} {rf : List (Nat × Nat)} {G1 : Lay} {σ1 : Mem} : Lo A w z t as nf rf G1 σ1 0 G1 σ1 := ⟨rfl, rfl, fun _ _ => ⟨rfl, rfl⟩, fun _ _ _ => ⟨rfl, rfl⟩, fun a k _ => by simp, fun i h => by omega⟩
theorem Lo.step {A w z z0 t j : Nat} {as : List (Nat × Nat × Nat)} {nf : Nat → List (Nat × Int32)} {rf : List (Nat × Nat)} {G1 G G9 : Lay} {σ1 σ s10 : Mem} (h : Lo A w z t as nf rf G1 σ1 j G σ) (hA : A ≤ gN G1) (hw : w = 1 + as.length) (hz : z = z0 + (as.map (fun q => q.2.2)).sum) (hM : Mk (gN G + 1) (gA G t 0 z0) (sZ σ (gN G + 1)) as (nf j) rf G9 s10) : Lo A w z t as nf rf G1 σ1 (j + 1) G9 (sR s10 A j (gN G + 1)) := by
  obtain ⟨h1, h2, h3, h4, h5, h6⟩ := h
  obtain ⟨-, m1, m2, m3, m4, m5, m5b, m6, m6b, m7, m8, m9⟩ := hM
  rw [gN_A] at m1 m3 m4 m8 m9
  rw [gZ_A] at m2
  have ej : w * (j + 1) = w * j + w := Nat.mul_succ w j
  have ez : z * (j + 1) = z * j + z := Nat.mul_succ z j
  have n9 : gN G9 = gN G1 + w * j + w := by omega
  refine ⟨by omega, by omega, ?_, ?_, ?_, ?_⟩
  · intro a ha
    have e1 := m3 a (by omega)
    rw [gT_A, gL_A, if_neg (by omega), if_neg (by omega)] at e1
    rw [e1.1, e1.2]
    exact h3 a ha
  · intro a k ha
    have e1 := m8 a k (by omega) (by omega)
    rw [mI_sZ, mJ_sZ, mR_sZ, if_neg (by omega), if_neg (by omega), if_neg (by omega)] at e1
    rw [mI_sR, mJ_sR, e1.1, e1.2.1]
    exact h4 a k ha
  · intro a k ha
    have e1 := m8 a k (by omega) (by omega)
    rw [mI_sZ, mJ_sZ, mR_sZ, if_neg (by omega), if_neg (by omega), if_neg (by omega)] at e1
    rw [mR_sR, e1.2.2, h5 a k ha]
    by_cases hk : a = A ∧ k = j
    · rw [if_pos hk, if_pos ⟨hk.1, by omega⟩, hk.2]
      omega
    · rw [if_neg hk]
      by_cases hk2 : a = A ∧ k < j
      · rw [if_pos hk2, if_pos ⟨hk2.1, by omega⟩]
      · rw [if_neg hk2, if_neg (by omega)]
  · intro i hi
    by_cases hij : i = j
    · subst hij
      have o1 : gN G1 + 1 + w * i = gN G + 1 := by omega
      rw [o1]
      have hne : gN G + 1 ≠ A := by omega
      refine ⟨?_, ?_, ?_, ?_, ?_, ?_, ?_⟩
      · have e1 := (m3 (gN G + 1) (Nat.le_refl _)).1
        rw [e1, gT_A, if_pos rfl]
      · intro k q hq
        have e1 := m4 k q hq
        rw [mR_sR, if_neg (by omega)]
        exact e1
      · intro q hq
        rw [mI_sR]
        exact m5 q hq
      · intro q hq
        rw [mR_sR, if_neg (by omega)]
        exact m6 q hq
      · intro k hk
        rw [mI_sR, m5b k hk, mI_sZ, if_pos rfl]
      · intro a k ha1 ha2
        rw [mI_sR]
        exact (m9 a k (by omega) (by omega)).1
      · intro a k ha1 ha2
        rw [mJ_sR]
        by_cases ha : a = gN G + 1
        · subst ha
          rw [m7, mJ_sZ, if_pos rfl]
        · exact (m9 a k (by omega) (by omega)).2.1
    · have hlt : i < j := by omega
      have hle : w * (i + 1) ≤ w * j := Nat.mul_le_mul_left w hlt
      have ei : w * (i + 1) = w * i + w := Nat.mul_succ w i
      obtain ⟨q1, q2, q3, q4, q5, q6, q7⟩ := h6 i hlt
      have low : ∀ a k, a ≤ gN G → a ≠ A → gT G9 a = gT G a ∧ gL G9 a = gL G a ∧ mI (sR s10 A j (gN G + 1)) a k = mI σ a k ∧ mJ (sR s10 A j (gN G + 1)) a k = mJ σ a k ∧ mR (sR s10 A j (gN G + 1)) a k = mR σ a k := by
        intro a k ha hne
        have e0 := m3 a (by omega)
        rw [gT_A, gL_A, if_neg (by omega), if_neg (by omega)] at e0
        have e1 := m8 a k (by omega) (by omega)
        rw [mI_sZ, mJ_sZ, mR_sZ, if_neg (by omega), if_neg (by omega), if_neg (by omega)] at e1
        rw [mI_sR, mJ_sR, mR_sR, if_neg (by omega)]
        exact ⟨e0.1, e0.2, e1.1, e1.2.1, e1.2.2⟩
      refine ⟨?_, ?_, ?_, ?_, ?_, ?_, ?_⟩
      · rw [(low _ 0 (by omega) (by omega)).1]
        exact q1
      · intro k q hq
        have hk := (List.getElem?_eq_some_iff.mp hq).1
        have e1 := low (gN G1 + 1 + w * i + 1 + k) 0 (by omega) (by omega)
        rw [e1.1, e1.2.1, (low (gN G1 + 1 + w * i) q.1 (by omega) (by omega)).2.2.2.2]
        exact q2 k q hq
      · intro q hq
        rw [(low (gN G1 + 1 + w * i) q.1 (by omega) (by omega)).2.2.1]
        exact q3 q hq
      · intro q hq
        rw [(low (gN G1 + 1 + w * i) q.1 (by omega) (by omega)).2.2.2.2]
        exact q4 q hq
      · intro k hk
        rw [(low (gN G1 + 1 + w * i) k (by omega) (by omega)).2.2.1]
        exact q5 k hk
      · intro a k ha1 ha2
        rw [(low a k (by omega) (by omega)).2.2.1]
        exact q6 a k ha1 ha2
      · intro a k ha1 ha2
        rw [(low a k (by omega) (by omega)).2.2.2.1]
        exact q7 a k ha1 ha2
