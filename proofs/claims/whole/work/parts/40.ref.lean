/-! the reference: what never changes of it -/
def RI (G : Lay) (σ : Mem) : Prop := gT G 1282 = 13 ∧ ∀ (j : Nat) (q : Nat × Nat × Nat), refAs[j]? = some q → gT G (1283 + j) = q.2.1 ∧ gL G (1283 + j) = q.2.2 ∧ mR σ 1282 q.1 = 1283 + j
theorem RI.of {G : Lay} {σ : Mem} (h : RefP G σ) (ht : gT G 1282 = 13) : RI G σ := by
  obtain ⟨Ga, σa, hn, -, hM⟩ := h
  refine ⟨ht, fun j q hq => ?_⟩
  have e := hM.2.2.2.2.1 j q hq
  rw [hn] at e
  exact e
theorem RI.sI {G : Lay} {σ : Mem} (h : RI G σ) (a k : Nat) (v : Int32) : RI G (sI σ a k v) := h
theorem RI.sJ {G : Lay} {σ : Mem} (h : RI G σ) (a k : Nat) (v : Int64) : RI G (sJ σ a k v) := h
theorem RI.sR {G : Lay} {σ : Mem} (h : RI G σ) (a k v : Nat) (ha : a ≠ 1282) : RI G (sR σ a k v) := ⟨h.1, fun j q hq => by
  have e := h.2 j q hq
  refine ⟨e.1, e.2.1, ?_⟩
  rw [mR_sR, if_neg (by omega)]
  exact e.2.2⟩
/-- of the fresh reference all ints are 0 but those that its constructor puts -/
theorem RefP.zero {G : Lay} {σ : Mem} (h : RefP G σ) : (∀ k, k ∉ refNs.map (·.1) → mI σ 1282 k = 0) ∧ (∀ q ∈ refNs, mI σ 1282 q.1 = q.2) ∧ (∀ a k, 1282 < a → a ≤ 1347 → mI σ a k = 0 ∧ mJ σ a k = 0) := by
  obtain ⟨Ga, σa, hn, hz, hM⟩ := h
  refine ⟨fun k hk => (hM.2.2.2.2.2.2.1 k hk).trans (hz k).1, hM.2.2.2.2.2.1, fun a k h1 h2 => ?_⟩
  have e1 : gN G = gN Ga + 65 := hM.2.1
  have e2 := hM.2.2.2.2.2.2.2.2.2.2.2 a k (by omega) (by omega)
  exact ⟨e2.1, e2.2.1⟩
/-! the pure claim for short scripts: the loop ends at once -/
theorem loop_short {G : Lay} {xs : Nat → Int32} {L : Nat} (hL : L < 6) (a b : Nat) (σ : Mem) : X_L G xs L a b σ := by
  unfold X_L
  refine ⟨1, ?_⟩
  show X_L_s G xs L a b _ (0, σ)
  unfold X_L_s
  refine ⟨fun _ => trivial, fun hc => absurd ?_ hc⟩
  have key : ∀ L : Nat, L < 6 → Int32.ofNat L - (6 : Int32) < 0 := by decide
  exact key L hL
/-- a script of six ints: one call, behind which the loop ends -/
theorem loop_six {G : Lay} {xs : Nat → Int32} (a b : Nat) (σ : Mem) (h : ∀ K : Int32 × Mem → Prop, (∀ s, K (6, s)) → X_L_s G xs 6 a b K (0, σ)) : X_L G xs 6 a b σ := by
  unfold X_L
  refine ⟨2, ?_⟩
  show X_L_s G xs 6 a b (Lp (X_L_s G xs 6 a b) 1) (0, σ)
  refine h _ (fun s => ?_)
  show X_L_s G xs 6 a b _ (6, s)
  unfold X_L_s
  exact ⟨fun _ => trivial, fun hc => absurd (by decide) hc⟩
