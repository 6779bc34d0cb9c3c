/-! words: the class's code and the reference's code tell the same -/
section WORDS
theorem ltr_rng {b : Nat} (h : 0 < ltr b) : 48 ≤ b ∧ b ≤ 122 ∧ ltr b ≤ 62 := by
  unfold ltr at h ⊢
  by_cases h1 : 97 ≤ b ∧ b ≤ 122
  · rw [if_pos h1]; omega
  · rw [if_neg h1] at h ⊢
    by_cases h2 : 65 ≤ b ∧ b ≤ 90
    · rw [if_pos h2]; omega
    · rw [if_neg h2] at h ⊢
      by_cases h3 : 48 ≤ b ∧ b ≤ 57
      · rw [if_pos h3]; omega
      · rw [if_neg h3] at h; omega
theorem ltr_inj {a b : Nat} (ha : 0 < ltr a) (e : ltr a = ltr b) : a = b := by
  have hb : 0 < ltr b := by omega
  unfold ltr at ha hb e
  by_cases a1 : 97 ≤ a ∧ a ≤ 122 <;> by_cases a2 : 65 ≤ a ∧ a ≤ 90 <;> by_cases a3 : 48 ≤ a ∧ a ≤ 57 <;> by_cases b1 : 97 ≤ b ∧ b ≤ 122 <;> by_cases b2 : 65 ≤ b ∧ b ≤ 90 <;> by_cases b3 : 48 ≤ b ∧ b ≤ 57 <;> simp only [a1, a2, a3, b1, b2, b3, if_true, if_false, and_self, if_pos, if_neg, not_false_eq_true] at ha hb e <;> omega
/-- a row of figures of some base, none of them 0, is told by its number -/
theorem fold_app (k : Nat) (g : Nat → Nat) (w : List Nat) (b : Nat) : (w ++ [b]).foldl (fun a b => k * a + g b) 0 = k * w.foldl (fun a b => k * a + g b) 0 + g b := by
  rw [List.foldl_append]; rfl
theorem fold_inj (k : Nat) (g : Nat → Nat) (hk : 2 ≤ k) (hg : ∀ a b, 0 < ltr a → 0 < ltr b → g a = g b → a = b) (hr : ∀ a, 0 < ltr a → 0 < g a ∧ g a < k) : ∀ n, ∀ v w : List Nat, v.length = n → (∀ b ∈ v, 0 < ltr b) → (∀ b ∈ w, 0 < ltr b) → v.foldl (fun a b => k * a + g b) 0 = w.foldl (fun a b => k * a + g b) 0 → v = w := by
  have cs : ∀ w : List Nat, w = [] ∨ ∃ w' b, w = w' ++ [b] := fun w => by
    cases w with
    | nil => exact Or.inl rfl
    | cons x w => exact Or.inr ⟨(x :: w).dropLast, (x :: w).getLast (List.cons_ne_nil _ _), (List.dropLast_concat_getLast _).symm⟩
  have pos : ∀ (w : List Nat) (b : Nat), 0 < ltr b → 0 < (w ++ [b]).foldl (fun a b => k * a + g b) 0 := fun w b hb => by
    rw [fold_app]; have := (hr b hb).1; omega
  intro n
  induction n with
  | zero =>
    intro v w hv h1 h2 e
    have : v = [] := List.length_eq_zero_iff.mp hv
    subst this
    rcases cs w with rfl | ⟨w', b, rfl⟩
    · rfl
    · have := pos w' b (h2 b (by simp))
      have e : 0 = _ := e
      omega
  | succ n ih =>
    intro v w hv h1 h2 e
    rcases cs v with rfl | ⟨v', a, rfl⟩
    · cases hv
    · rcases cs w with rfl | ⟨w', b, rfl⟩
      · have := pos v' a (h1 a (by simp))
        have e : _ = 0 := e
        omega
      · rw [fold_app, fold_app] at e
        have ha := h1 a (by simp)
        have hb := h2 b (by simp)
        have r1 := hr a ha
        have r2 := hr b hb
        have e1 : g a = g b := by
          have m1 := congrArg (· % k) e
          simp only [Nat.mul_add_mod, Nat.mod_eq_of_lt r1.2, Nat.mod_eq_of_lt r2.2] at m1
          exact m1
        have e2 : v'.foldl (fun a b => k * a + g b) 0 = w'.foldl (fun a b => k * a + g b) 0 := by
          rw [e1] at e
          exact Nat.eq_of_mul_eq_mul_left (by omega) (Nat.add_right_cancel e)
        have e3 := ih v' w' (by rw [List.length_append] at hv; simpa using hv) (fun b hb => h1 b (by simp [hb])) (fun b hb => h2 b (by simp [hb])) e2
        rw [e3, hg a b ha hb e1]
theorem e8_inj {v w : List Nat} (h1 : ∀ b ∈ v, 0 < ltr b) (h2 : ∀ b ∈ w, 0 < ltr b) (e : e8 v = e8 w) : v = w := fold_inj 256 (fun b => b) (by decide) (fun _ _ _ _ h => h) (fun a ha => ⟨by have := ltr_rng ha; omega, by have := ltr_rng ha; omega⟩) _ v w rfl h1 h2 e
theorem e6_inj {v w : List Nat} (h1 : ∀ b ∈ v, 0 < ltr b) (h2 : ∀ b ∈ w, 0 < ltr b) (e : e6 v = e6 w) : v = w := fold_inj 64 ltr (by decide) (fun a b ha _ h => ltr_inj ha h) (fun a ha => ⟨ha, by have := ltr_rng ha; omega⟩) _ v w rfl h1 h2 e
theorem fold_lt (k : Nat) (g : Nat → Nat) (hr : ∀ a, 0 < ltr a → g a < k) : ∀ n, ∀ w : List Nat, w.length = n → (∀ b ∈ w, 0 < ltr b) → w.foldl (fun a b => k * a + g b) 0 < k ^ n := by
  intro n
  induction n with
  | zero =>
    intro w hw h
    rw [List.length_eq_zero_iff.mp hw]
    exact Nat.lt_succ_self 0
  | succ n ih =>
    intro w hw h
    cases w with
    | nil => cases hw
    | cons x w0 =>
      have hx : (x :: w0) = (x :: w0).dropLast ++ [(x :: w0).getLast (List.cons_ne_nil _ _)] := (List.dropLast_concat_getLast _).symm
      rw [hx, fold_app]
      have hl : (x :: w0).dropLast.length = n := by rw [List.length_dropLast, hw]; rfl
      have hm : ∀ b ∈ (x :: w0).dropLast, 0 < ltr b := fun b hb => h b (List.dropLast_subset _ hb)
      have i := ih _ hl hm
      have r := hr _ (h _ (List.getLast_mem (List.cons_ne_nil x w0)))
      rw [Nat.pow_succ, Nat.mul_comm (k ^ n) k]
      calc k * (x :: w0).dropLast.foldl (fun a b => k * a + g b) 0 + g ((x :: w0).getLast (List.cons_ne_nil _ _)) < k * (x :: w0).dropLast.foldl (fun a b => k * a + g b) 0 + k := by omega
        _ = k * ((x :: w0).dropLast.foldl (fun a b => k * a + g b) 0 + 1) := by rw [Nat.mul_add, Nat.mul_one]
        _ ≤ k * k ^ n := Nat.mul_le_mul_left _ i
theorem fold_lt8 {w : List Nat} (h8 : w.length ≤ 8) (h : ∀ b ∈ w, 0 < ltr b) : e8 w < 2 ^ 63 ∧ e6 w < 2 ^ 63 := by
  refine ⟨?_, ?_⟩
  · have := fold_lt 123 (fun b => b) (fun a ha => by have := ltr_rng ha; omega)
    clear this
    -- every sign is below 128
    have key : ∀ n, ∀ w : List Nat, w.length = n → (∀ b ∈ w, 0 < ltr b) → 2 * e8 w < 256 ^ n + 256 ^ n := by
      intro n
      induction n with
      | zero =>
        intro w hw _
        rw [List.length_eq_zero_iff.mp hw]; decide
      | succ n ih =>
        intro w hw h
        have := fold_lt 256 (fun b => b) (fun a ha => by have := ltr_rng ha; omega) (n + 1) w hw h
        have : e8 w < 256 ^ (n + 1) := this
        omega
    have h2 : ∀ w : List Nat, w.length ≤ 8 → (∀ b ∈ w, 0 < ltr b) → e8 w < 2 ^ 63 := by
      intro w hw h
      cases w with
      | nil => decide
      | cons x w0 =>
        have hx := (ltr_rng (h x (by simp))).2.1
        have gen : ∀ (v : List Nat) (a : Nat), (∀ b ∈ v, 0 < ltr b) → v.foldl (fun a b => 256 * a + b) a < (a + 1) * 256 ^ v.length := by
          intro v
          induction v with
          | nil => intro a _; simp
          | cons y v ih =>
            intro a hv
            have hy := ltr_rng (hv y (by simp))
            have i := ih (256 * a + y) (fun b hb => hv b (by simp [hb]))
            rw [List.foldl_cons, List.length_cons, Nat.pow_succ]
            calc v.foldl (fun a b => 256 * a + b) (256 * a + y) < (256 * a + y + 1) * 256 ^ v.length := i
              _ ≤ ((a + 1) * 256) * 256 ^ v.length := Nat.mul_le_mul_right _ (by omega)
              _ = (a + 1) * (256 ^ v.length * 256) := by rw [Nat.mul_assoc, Nat.mul_comm 256]
        have g := gen w0 x (fun b hb => h b (by simp [hb]))
        have e : e8 (x :: w0) = w0.foldl (fun a b => 256 * a + b) x := by
          unfold e8
          rw [List.foldl_cons]
          congr 1
          omega
        rw [e]
        have hl : w0.length ≤ 7 := by rw [List.length_cons] at hw; omega
        calc w0.foldl (fun a b => 256 * a + b) x < (x + 1) * 256 ^ w0.length := g
          _ ≤ 128 * 256 ^ 7 := Nat.mul_le_mul (by omega) (Nat.pow_le_pow_right (by decide) hl)
          _ = 2 ^ 63 := by decide
    exact h2 w h8 h
  · have := fold_lt 64 ltr (fun a ha => by have := ltr_rng ha; omega) w.length w rfl h
    have h3 : (64 : Nat) ^ w.length ≤ 64 ^ 8 := Nat.pow_le_pow_right (by decide) h8
    have : e6 w < 64 ^ w.length := this
    have h4 : (64 : Nat) ^ 8 ≤ 2 ^ 63 := by decide
    omega
theorem WdR.iff {x y x' y' : Int64} (h : WdR x y) (h' : WdR x' y') : x = x' ↔ y = y' := by
  obtain ⟨w, w1, w2, w3, rfl, rfl⟩ := h
  obtain ⟨v, v1, v2, v3, rfl, rfl⟩ := h'
  have a := fold_lt8 w2 w3
  have b := fold_lt8 v2 v3
  rw [pk_lEQ a.1 b.1, pk_lEQ a.2 b.2]
  exact ⟨fun e => by rw [e8_inj w3 v3 e], fun e => by rw [e6_inj w3 v3 e]⟩
end WORDS
