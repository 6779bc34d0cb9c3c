/-! a row of references at once -/
def insAtN (a : Nat → Nat) (t p : Nat) (x : Nat) : Nat → Nat := fun k => if k < p then a k else if k = p then x else if k ≤ t then a (k - 1) else a k
def shfN (a : Nat → Nat) (t p : Nat) : Nat → Nat := fun k => if p < k ∧ k ≤ t then a (k - 1) else a k
def sB (σ : Mem) (a : Nat) (f : Nat → Nat) : Mem := (σ.1, σ.2.1, fun q k => if q = a then f k else σ.2.2 q k)
section SB
variable {σ κ ρ : Mem} {a b k p t : Nat} {f g : Nat → Nat} {v : Nat}
theorem sB_is : mR (sB σ a f) a k = f k := if_pos rfl
theorem sB_cl (h : b ≠ a) : mR (sB σ a f) b k = mR σ b k := if_neg h
theorem sB_I (σ : Mem) (a b k : Nat) (f : Nat → Nat) : mI (sB σ a f) b k = mI σ b k := rfl
theorem sB_J (σ : Mem) (a b k : Nat) (f : Nat → Nat) : mJ (sB σ a f) b k = mJ σ b k := rfl
theorem sB_id : sB σ a (mR σ a) = σ := by
  unfold sB
  refine Prod.ext rfl (Prod.ext rfl ?_)
  funext q j
  show (if q = a then σ.2.2 a j else σ.2.2 q j) = σ.2.2 q j
  by_cases h : q = a
  · rw [if_pos h, h]
  · rw [if_neg h]
theorem sB_w : sR (sB σ a f) a k v = sB σ a (fun j => if j = k then v else f j) := by
  unfold sB sR
  refine Prod.ext rfl (Prod.ext rfl ?_)
  funext q j
  show (if q = a ∧ j = k then v else if q = a then f j else σ.2.2 q j) = if q = a then (if j = k then v else f j) else σ.2.2 q j
  by_cases h : q = a
  · by_cases h2 : j = k
    · rw [if_pos ⟨h, h2⟩, if_pos h, if_pos h2]
    · rw [if_neg (fun e => h2 e.2), if_pos h, if_pos h, if_neg h2]
  · rw [if_neg (fun e => h e.1), if_neg h, if_neg h]
theorem sB_sw (h : a ≠ b) : sR (sB σ b f) a k v = sB (sR σ a k v) b f := by
  unfold sB sR
  refine Prod.ext rfl (Prod.ext rfl ?_)
  funext q j
  show (if q = a ∧ j = k then v else if q = b then f j else σ.2.2 q j) = if q = b then f j else if q = a ∧ j = k then v else σ.2.2 q j
  by_cases h1 : q = a ∧ j = k
  · rw [if_pos h1, if_neg (by omega), if_pos h1]
  · rw [if_neg h1, if_neg h1]
theorem sB_A : sB (sB σ a f) a g = sB σ a g := by
  unfold sB
  refine Prod.ext rfl (Prod.ext rfl ?_)
  funext q j
  show (if q = a then g j else if q = a then f j else σ.2.2 q j) = if q = a then g j else σ.2.2 q j
  by_cases h : q = a
  · rw [if_pos h, if_pos h]
  · rw [if_neg h, if_neg h, if_neg h]
theorem sB_c (h : a < 1282) : sB (mg κ ρ) a f = mg (sB κ a f) ρ := by
  unfold sB mg
  refine Prod.ext rfl (Prod.ext rfl ?_)
  funext q j
  show (if q = a then f j else if q < 1282 then κ.2.2 q j else ρ.2.2 q j) = if q < 1282 then (if q = a then f j else κ.2.2 q j) else ρ.2.2 q j
  by_cases h1 : q = a
  · rw [if_pos h1, if_pos (by omega), if_pos h1]
  · rw [if_neg h1, if_neg h1]
theorem sB_m (h : 1282 ≤ a) : sB (mg κ ρ) a f = mg κ (sB ρ a f) := by
  unfold sB mg
  refine Prod.ext rfl (Prod.ext rfl ?_)
  funext q j
  show (if q = a then f j else if q < 1282 then κ.2.2 q j else ρ.2.2 q j) = if q < 1282 then κ.2.2 q j else (if q = a then f j else ρ.2.2 q j)
  by_cases h1 : q = a
  · rw [if_pos h1, if_neg (by omega), if_pos h1]
  · rw [if_neg h1, if_neg h1]
theorem shfN_t : shfN f t t = f := by
  funext k
  exact if_neg (fun e => by omega)
theorem shfN_st (h1 : 1 ≤ p) (h2 : p ≤ t) : (fun j => if j = p then shfN f t p (p - 1) else shfN f t p j) = shfN f t (p - 1) := by
  funext k
  unfold shfN
  by_cases e : k = p
  · subst e
    rw [if_pos rfl, if_neg (by omega), if_pos (by omega)]
  · rw [if_neg e]
    by_cases e2 : p < k ∧ k ≤ t
    · rw [if_pos e2, if_pos (by omega)]
    · rw [if_neg e2, if_neg (by omega)]
theorem shfN_in (h2 : p ≤ t) : (fun j => if j = p then v else shfN f t p j) = insAtN f t p v := by
  funext k
  unfold shfN insAtN
  by_cases e : k = p
  · subst e
    rw [if_pos rfl, if_neg (by omega), if_pos rfl]
  · rw [if_neg e]
    by_cases e2 : p < k ∧ k ≤ t
    · rw [if_pos e2, if_neg (by omega), if_neg e, if_pos (by omega)]
    · rw [if_neg e2]
      by_cases e3 : k < p
      · rw [if_pos e3]
      · rw [if_neg e3, if_neg e, if_neg (by omega)]
theorem shfN_lo (h : k < p) : shfN f t p k = f k := if_neg (fun e => by omega)
end SB
