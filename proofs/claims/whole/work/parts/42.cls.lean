/-! the fresh register in plain facts: a piece whose constructor has no loop -/
theorem Stg.mk {ex : List Nat} {r t nb : Nat} {as : List (Nat × Nat × Nat)} {ns : List (Nat × Int32)} {rs : List (Nat × Nat)} {G : Lay} {σ : Mem} (h : Stg ex r t nb (fun Ga σa Gb σb => Mk r Ga σa as ns rs Gb σb) G σ) (hnb : nb = r + as.length) (hex : ∀ a, r ≤ a → a ≤ nb → a ∉ ex) : gT G r = t ∧ (∀ (j : Nat) (q : Nat × Nat × Nat), as[j]? = some q → gT G (r + 1 + j) = q.2.1 ∧ gL G (r + 1 + j) = q.2.2 ∧ mR σ r q.1 = r + 1 + j ∧ ∀ k, mI σ (r + 1 + j) k = 0 ∧ mJ σ (r + 1 + j) k = 0) ∧ (∀ q ∈ ns, mI σ r q.1 = q.2) ∧ (∀ k, k ∉ ns.map (·.1) → mI σ r k = 0) ∧ (∀ q ∈ rs, mR σ r q.1 = q.2) := by
  obtain ⟨Ga, Gb, σa, σb, h0, h1, h2, h3, h4⟩ := h
  have hr := h4 r (by omega) (hex r (Nat.le_refl _) (by omega))
  obtain ⟨-, m1, m2, m3, m4, m5, m5b, m6, m6b, m7, m8, m9⟩ := h3
  rw [h0] at m1 m3 m4 m9
  refine ⟨?_, fun j q hq => ?_, fun q hq => ?_, fun k hk => ?_, fun q hq => ?_⟩
  · rw [hr.1.1, (m3 r (Nat.le_refl _)).1]
    exact h1
  · have hj : j < as.length := (List.getElem?_eq_some_iff.mp hq).1
    have e := h4 (r + 1 + j) (by omega) (hex _ (by omega) (by omega))
    have m := m4 j q hq
    refine ⟨e.1.1.trans m.1, e.1.2.trans m.2.1, (hr.2 q.1).2.2.trans m.2.2, fun k => ?_⟩
    have z := m9 (r + 1 + j) k (by omega) (by omega)
    exact ⟨(e.2 k).1.trans z.1, (e.2 k).2.1.trans z.2.1⟩
  · exact (hr.2 q.1).1.trans (m5 q hq)
  · exact (hr.2 k).1.trans ((m5b k hk).trans (h2 k).1)
  · exact (hr.2 q.1).2.2.trans (m6 q hq)
/-- the tokens, the readers and the question of the fresh register -/
theorem RegP.tok {G : Lay} {σ : Mem} (h : RegP G σ) : gT G 3 = 9 ∧ (gT G 4 = 100 ∧ gL G 4 = 3001 ∧ mR σ 3 0 = 4) ∧ (gT G 5 = 100 ∧ gL G 5 = 3001 ∧ mR σ 3 1 = 5) ∧ (gT G 6 = 103 ∧ gL G 6 = 3001 ∧ mR σ 3 2 = 6) ∧ mI σ 3 6 = -1 ∧ mI σ 3 3 = 0 ∧ mI σ 3 4 = 0 ∧ mI σ 3 5 = 0 := by
  obtain ⟨e1, e2, e3, e4, -⟩ := Stg.mk h.2.2.2.1.2.1 rfl (fun a h1 h2 => by simp; omega)
  have a0 := e2 0 _ rfl
  have a1 := e2 1 _ rfl
  have a2 := e2 2 _ rfl
  exact ⟨e1, ⟨a0.1, a0.2.1, a0.2.2.1⟩, ⟨a1.1, a1.2.1, a1.2.2.1⟩, ⟨a2.1, a2.2.1, a2.2.2.1⟩, e3 (6, -1) (by simp), e4 3 (by simp), e4 4 (by simp), e4 5 (by simp)⟩
theorem RegP.rea {G : Lay} {σ : Mem} (h : RegP G σ) : gT G 7 = 1 ∧ mR σ 7 0 = 3 := by
  obtain ⟨e1, -, -, -, e5⟩ := Stg.mk h.2.2.2.1.2.2.1 rfl (fun a h1 h2 => by simp; omega)
  exact ⟨e1, e5 (0, 3) (by simp)⟩
theorem RegP.que {G : Lay} {σ : Mem} (h : RegP G σ) : gT G 8 = 4 ∧ (gT G 9 = 100 ∧ gL G 9 = 6000 ∧ mR σ 8 2 = 9) ∧ (gT G 10 = 100 ∧ gL G 10 = 64 ∧ mR σ 8 3 = 10) ∧ ∀ k, mI σ 8 k = 0 := by
  obtain ⟨e1, e2, -, e4, -⟩ := Stg.mk h.2.2.2.1.2.2.2.1 rfl (fun a h1 h2 => by simp; omega)
  have a0 := e2 0 _ rfl
  have a1 := e2 1 _ rfl
  exact ⟨e1, ⟨a0.1, a0.2.1, a0.2.2.1⟩, ⟨a1.1, a1.2.1, a1.2.2.1⟩, fun k => e4 k (by simp)⟩
theorem RegP.qre {G : Lay} {σ : Mem} (h : RegP G σ) : gT G 11 = 5 ∧ (gT G 12 = 100 ∧ gL G 12 = 64 ∧ mR σ 11 3 = 12) ∧ mR σ 11 0 = 3 ∧ mR σ 11 1 = 8 := by
  obtain ⟨e1, e2, -, -, e5⟩ := Stg.mk h.2.2.2.1.2.2.2.2.1 rfl (fun a h1 h2 => by simp; omega)
  have a0 := e2 0 _ rfl
  exact ⟨e1, ⟨a0.1, a0.2.1, a0.2.2.1⟩, e5 (0, 3) (by simp), e5 (1, 8) (by simp)⟩
