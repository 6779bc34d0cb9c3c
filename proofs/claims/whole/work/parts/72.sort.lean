/-! rows of keys in order -/
def Srt (a : Nat → Int32) (t : Nat) (S : Int32 → Prop) : Prop := (∀ i j, i < j → j < t → a i < a j) ∧ (∀ i, i < t → S (a i)) ∧ ∀ x, S x → ∃ i, i < t ∧ a i = x
theorem lt_ir {x : Int32} (h : x < x) : False := Int32.lt_irrefl h
theorem Srt.half {a b : Nat → Int32} {t t' : Nat} {S : Int32 → Prop} (h : Srt a t S) (h' : Srt b t' S) : ∀ i, i < t → i < t' ∧ a i = b i := by
  intro i
  induction i using Nat.strongRecOn with
  | _ i ih =>
    intro hi
    obtain ⟨j, hj, ej⟩ := h'.2.2 _ (h.2.1 i hi)
    have hji : ¬ j < i := by
      intro hlt
      have e := (ih j hlt (by omega)).2
      have := h.1 j i hlt hi
      rw [e, ej] at this
      exact lt_ir this
    refine ⟨by omega, ?_⟩
    by_cases e : j = i
    · subst e; exact ej.symm
    · obtain ⟨i', hi', ei⟩ := h.2.2 _ (h'.2.1 i (by omega))
      by_cases h1 : i' < i
      · have e2 := (ih i' h1 hi').2
        have := h'.1 i' i h1 (by omega)
        rw [← e2, ei] at this
        exact absurd this (fun z => lt_ir z)
      · by_cases h2 : i' = i
        · subst h2; exact ei
        · have a1 := h.1 i i' (by omega) hi'
          have a2 := h'.1 i j (by omega) hj
          rw [ei] at a1
          rw [ej] at a2
          exact absurd (Int32.lt_trans a1 a2) (fun z => lt_ir z)
theorem Srt.uni {a b : Nat → Int32} {t t' : Nat} {S : Int32 → Prop} (h : Srt a t S) (h' : Srt b t' S) : t = t' ∧ ∀ i, i < t → a i = b i := by
  have h1 := Srt.half h h'
  have h2 := Srt.half h' h
  refine ⟨?_, fun i hi => (h1 i hi).2⟩
  by_cases e : t < t'
  · have := (h2 t e).1; omega
  · by_cases e2 : t' < t
    · have := (h1 t' e2).1; omega
    · omega
theorem Srt.cg {a b : Nat → Int32} {t : Nat} {S T : Int32 → Prop} (h : Srt a t S) (e : ∀ i, i < t → b i = a i) (hs : ∀ x, S x ↔ T x) : Srt b t T := by
  refine ⟨fun i j h1 h2 => ?_, fun i hi => ?_, fun x hx => ?_⟩
  · rw [e i (by omega), e j h2]; exact h.1 i j h1 h2
  · rw [e i hi]; exact (hs _).mp (h.2.1 i hi)
  · obtain ⟨i, hi, ei⟩ := h.2.2 x ((hs x).mpr hx)
    exact ⟨i, hi, (e i hi).trans ei⟩
theorem Srt.nil (a : Nat → Int32) : Srt a 0 (fun _ => False) := ⟨fun i j _ h => by omega, fun i h => by omega, fun _ h => h.elim⟩
/-- a greater one comes behind -/
theorem Srt.snoc {a b : Nat → Int32} {t : Nat} {S T : Int32 → Prop} {x : Int32} (h : Srt a t S) (e : ∀ i, i < t → b i = a i) (ex : b t = x) (hg : ∀ y, S y → y < x) (hs : ∀ y, T y ↔ S y ∨ y = x) : Srt b (t + 1) T := by
  refine ⟨fun i j h1 h2 => ?_, fun i hi => ?_, fun y hy => ?_⟩
  · by_cases hj : j = t
    · subst hj
      rw [e i h1, ex]
      exact hg _ (h.2.1 i h1)
    · rw [e i (by omega), e j (by omega)]; exact h.1 i j h1 (by omega)
  · by_cases ht : i = t
    · subst ht; rw [ex]; exact (hs _).mpr (Or.inr rfl)
    · rw [e i (by omega)]; exact (hs _).mpr (Or.inl (h.2.1 i (by omega)))
  · rcases (hs y).mp hy with hy | rfl
    · obtain ⟨i, hi, ei⟩ := h.2.2 y hy
      exact ⟨i, by omega, (e i hi).trans ei⟩
    · exact ⟨t, by omega, ex⟩
/-! insertion -/
def insAt (a : Nat → Int32) (t p : Nat) (x : Int32) : Nat → Int32 := fun k => if k < p then a k else if k = p then x else if k ≤ t then a (k - 1) else a k
def shf (a : Nat → Int32) (t p : Nat) : Nat → Int32 := fun k => if p < k ∧ k ≤ t then a (k - 1) else a k
theorem insPos (a : Nat → Int32) (x : Int32) : ∀ t, ∃ p, p ≤ t ∧ (∀ i, p ≤ i → i < t → x < a i) ∧ (p = 0 ∨ ¬ x < a (p - 1)) := by
  intro t
  induction t with
  | zero => exact ⟨0, Nat.le_refl _, fun i h1 h2 => by omega, Or.inl rfl⟩
  | succ t ih =>
    by_cases h : x < a t
    · obtain ⟨p, h1, h2, h3⟩ := ih
      refine ⟨p, by omega, fun i i1 i2 => ?_, h3⟩
      by_cases e : i = t
      · subst e; exact h
      · exact h2 i i1 (by omega)
    · exact ⟨t + 1, Nat.le_refl _, fun i h1 h2 => by omega, Or.inr (by simpa using h)⟩
theorem Srt.ins {a b : Nat → Int32} {t p : Nat} {S T : Int32 → Prop} {x : Int32} (h : Srt a t S) (hp : p ≤ t) (h1 : ∀ i, p ≤ i → i < t → x < a i) (h2 : p = 0 ∨ ¬ x < a (p - 1)) (hx : ¬ S x) (e : ∀ i, i ≤ t → b i = insAt a t p x i) (hs : ∀ y, T y ↔ S y ∨ y = x) : Srt b (t + 1) T := by
  have low : ∀ i, i < p → a i < x := by
    intro i hi
    have hl : a (p - 1) < x := by
      rcases h2 with h2 | h2
      · omega
      · rcases Int32.lt_or_eq_of_le (Int32.not_lt.mp h2) with h3 | h3
        · exact h3
        · exact absurd (h3 ▸ h.2.1 (p - 1) (by omega)) hx
    by_cases ei : i = p - 1
    · subst ei; exact hl
    · exact Int32.lt_trans (h.1 i (p - 1) (by omega) (by omega)) hl
  have v1 : ∀ i, i < p → b i = a i := fun i hi => by rw [e i (by omega)]; unfold insAt; rw [if_pos hi]
  have v2 : b p = x := by rw [e p hp]; unfold insAt; rw [if_neg (by omega), if_pos rfl]
  have v3 : ∀ i, p < i → i ≤ t → b i = a (i - 1) := fun i hi hi2 => by rw [e i hi2]; unfold insAt; rw [if_neg (by omega), if_neg (by omega), if_pos hi2]
  refine ⟨fun i j hij hj => ?_, fun i hi => ?_, fun y hy => ?_⟩
  · by_cases c1 : j < p
    · rw [v1 i (by omega), v1 j c1]; exact h.1 i j hij (by omega)
    · by_cases c2 : j = p
      · subst c2; rw [v1 i hij, v2]; exact low i hij
      · rw [v3 j (by omega) (by omega)]
        by_cases c3 : i < p
        · rw [v1 i c3]; exact h.1 i (j - 1) (by omega) (by omega)
        · by_cases c4 : i = p
          · subst c4; rw [v2]; exact h1 (j - 1) (by omega) (by omega)
          · rw [v3 i (by omega) (by omega)]; exact h.1 (i - 1) (j - 1) (by omega) (by omega)
  · by_cases c1 : i < p
    · rw [v1 i c1]; exact (hs _).mpr (Or.inl (h.2.1 i (by omega)))
    · by_cases c2 : i = p
      · subst c2; rw [v2]; exact (hs _).mpr (Or.inr rfl)
      · rw [v3 i (by omega) (by omega)]; exact (hs _).mpr (Or.inl (h.2.1 (i - 1) (by omega)))
  · rcases (hs y).mp hy with hy | rfl
    · obtain ⟨i, hi, ei⟩ := h.2.2 y hy
      by_cases c1 : i < p
      · exact ⟨i, by omega, (v1 i c1).trans ei⟩
      · exact ⟨i + 1, by omega, (v3 (i + 1) (by omega) (by omega)).trans (by rw [Nat.add_sub_cancel]; exact ei)⟩
    · exact ⟨p, by omega, v2⟩
/-! a cell's ints at once -/
def sA (σ : Mem) (a : Nat) (f : Nat → Int32) : Mem := ((fun q k => if q = a then f k else σ.1 q k), σ.2.1, σ.2.2)
section SA
variable {σ κ ρ : Mem} {a b k p t : Nat} {f g : Nat → Int32} {v : Int32}
theorem sA_is : mI (sA σ a f) a k = f k := if_pos rfl
theorem sA_cl (h : b ≠ a) : mI (sA σ a f) b k = mI σ b k := if_neg h
theorem sA_R (σ : Mem) (a b k : Nat) (f : Nat → Int32) : mR (sA σ a f) b k = mR σ b k := rfl
theorem sA_J (σ : Mem) (a b k : Nat) (f : Nat → Int32) : mJ (sA σ a f) b k = mJ σ b k := rfl
theorem sA_id : sA σ a (mI σ a) = σ := by
  unfold sA
  refine Prod.ext ?_ rfl
  funext q j
  show (if q = a then σ.1 a j else σ.1 q j) = σ.1 q j
  by_cases h : q = a
  · rw [if_pos h, h]
  · rw [if_neg h]
theorem sA_w : sI (sA σ a f) a k v = sA σ a (fun j => if j = k then v else f j) := by
  unfold sA sI
  refine Prod.ext ?_ rfl
  funext q j
  show (if q = a ∧ j = k then v else if q = a then f j else σ.1 q j) = if q = a then (if j = k then v else f j) else σ.1 q j
  by_cases h : q = a
  · by_cases h2 : j = k
    · rw [if_pos ⟨h, h2⟩, if_pos h, if_pos h2]
    · rw [if_neg (fun e => h2 e.2), if_pos h, if_pos h, if_neg h2]
  · rw [if_neg (fun e => h e.1), if_neg h, if_neg h]
theorem sA_sw (h : a ≠ b) : sI (sA σ b f) a k v = sA (sI σ a k v) b f := by
  unfold sA sI
  refine Prod.ext ?_ rfl
  funext q j
  show (if q = a ∧ j = k then v else if q = b then f j else σ.1 q j) = if q = b then f j else if q = a ∧ j = k then v else σ.1 q j
  by_cases h1 : q = a ∧ j = k
  · rw [if_pos h1, if_neg (by omega), if_pos h1]
  · rw [if_neg h1, if_neg h1]
theorem sA_A : sA (sA σ a f) a g = sA σ a g := by
  unfold sA
  refine Prod.ext ?_ rfl
  funext q j
  show (if q = a then g j else if q = a then f j else σ.1 q j) = if q = a then g j else σ.1 q j
  by_cases h : q = a
  · rw [if_pos h, if_pos h]
  · rw [if_neg h, if_neg h, if_neg h]
theorem sA_c (h : a < 1282) : sA (mg κ ρ) a f = mg (sA κ a f) ρ := by
  unfold sA mg
  refine Prod.ext ?_ rfl
  funext q j
  show (if q = a then f j else if q < 1282 then κ.1 q j else ρ.1 q j) = if q < 1282 then (if q = a then f j else κ.1 q j) else ρ.1 q j
  by_cases h1 : q = a
  · rw [if_pos h1, if_pos (by omega), if_pos h1]
  · rw [if_neg h1, if_neg h1]
theorem sA_m (h : 1282 ≤ a) : sA (mg κ ρ) a f = mg κ (sA ρ a f) := by
  unfold sA mg
  refine Prod.ext ?_ rfl
  funext q j
  show (if q = a then f j else if q < 1282 then κ.1 q j else ρ.1 q j) = if q < 1282 then κ.1 q j else (if q = a then f j else ρ.1 q j)
  by_cases h1 : q = a
  · rw [if_pos h1, if_neg (by omega), if_pos h1]
  · rw [if_neg h1, if_neg h1]
theorem StC.wA (h : StC κ) (a : Nat) (f : Nat → Int32) : StC (sA κ a f) := h
theorem StM.wA (h : StM ρ) (a : Nat) (f : Nat → Int32) : StM (sA ρ a f) := h
theorem Eqv.sA {S : Nat → Nat → Prop} {σ' : Mem} (h : Eqv S σ σ') (hs : ∀ k, ¬ S a k) : Eqv S σ (sA σ' a f) := fun b j hb => ⟨by
  show (if b = a then f j else mI σ' b j) = mI σ b j
  rw [if_neg (by rintro rfl; exact hs j hb)]
  exact (h b j hb).1, (h b j hb).2.1, (h b j hb).2.2⟩
theorem shf_t : shf f t t = f := by
  funext k
  exact if_neg (fun e => by omega)
theorem shf_st (h1 : 1 ≤ p) (h2 : p ≤ t) : (fun j => if j = p then shf f t p (p - 1) else shf f t p j) = shf f t (p - 1) := by
  funext k
  unfold shf
  by_cases e : k = p
  · subst e
    rw [if_pos rfl, if_neg (by omega), if_pos (by omega)]
  · rw [if_neg e]
    by_cases e2 : p < k ∧ k ≤ t
    · rw [if_pos e2, if_pos (by omega)]
    · rw [if_neg e2, if_neg (by omega)]
theorem shf_in (h2 : p ≤ t) : (fun j => if j = p then v else shf f t p j) = insAt f t p v := by
  funext k
  unfold shf insAt
  by_cases e : k = p
  · subst e
    rw [if_pos rfl, if_neg (by omega), if_pos rfl]
  · rw [if_neg e]
    by_cases e2 : p < k ∧ k ≤ t
    · rw [if_pos e2, if_neg (by omega), if_neg e, if_pos (by omega)]
    · rw [if_neg e2]
      by_cases e3 : k < p
      · rw [if_pos e3]
      · rw [if_neg e3, if_neg e, if_neg (by omega)]
theorem shf_lo (h : k < p) : shf f t p k = f k := if_neg (fun e => by omega)
end SA
/-- a loop that counts, whose state is chosen ahead of what follows it -/
theorem Lw.run {α β ι : Type} (F : ι → (α → Prop) → α → Prop) (g : β → ι → α) (n : Nat) (J : Nat → β → Prop) (hs : ∀ i b, i < n → J i b → ∃ b', J (i + 1) b' ∧ ∀ q K, K (g b' q) → F q K (g b q)) (i : Nat) (hi : i ≤ n) (b : β) (h : J i b) : ∃ b', J n b' ∧ ∀ q, (∀ K, F q K (g b' q)) → Lw (F q) (g b q) := by
  have key : ∀ d i b, i ≤ n → n - i = d → J i b → ∃ b', J n b' ∧ ∀ q, (∀ K, F q K (g b' q)) → Lp (F q) (d + 1) (g b q) := by
    intro d
    induction d with
    | zero =>
      intro i b hi hd hb
      obtain rfl : i = n := by omega
      exact ⟨b, hb, fun q hq => hq _⟩
    | succ d ih =>
      intro i b hi hd hb
      obtain ⟨b1, h1, h2⟩ := hs i b (by omega) hb
      obtain ⟨b', h3, h4⟩ := ih (i + 1) b1 (by omega) (by omega) h1
      exact ⟨b', h3, fun q hq => h2 q _ (h4 q hq)⟩
  obtain ⟨b', h1, h2⟩ := key (n - i) i b hi rfl h
  exact ⟨b', h1, fun q hq => ⟨_, h2 q hq⟩⟩
