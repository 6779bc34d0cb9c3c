/-! two memories in one: the class's cells (below 1282), the reference's (from 1282 on) -/
def mg (κ ρ : Mem) : Mem := (fun a k => if a < 1282 then κ.1 a k else ρ.1 a k, fun a k => if a < 1282 then κ.2.1 a k else ρ.2.1 a k, fun a k => if a < 1282 then κ.2.2 a k else ρ.2.2 a k)
theorem mg_self (σ : Mem) : mg σ σ = σ := by
  unfold mg
  simp only [ite_self]
section MG
variable {κ ρ : Mem} {a b : Nat}
theorem mI_c (h : a < 1282) (k : Nat) : mI (mg κ ρ) a k = mI κ a k := if_pos h
theorem mJ_c (h : a < 1282) (k : Nat) : mJ (mg κ ρ) a k = mJ κ a k := if_pos h
theorem mR_c (h : a < 1282) (k : Nat) : mR (mg κ ρ) a k = mR κ a k := if_pos h
theorem mI_m (h : 1282 ≤ a) (k : Nat) : mI (mg κ ρ) a k = mI ρ a k := if_neg (by omega)
theorem mJ_m (h : 1282 ≤ a) (k : Nat) : mJ (mg κ ρ) a k = mJ ρ a k := if_neg (by omega)
theorem mR_m (h : 1282 ≤ a) (k : Nat) : mR (mg κ ρ) a k = mR ρ a k := if_neg (by omega)
theorem up2_ite {α : Type} (f g : Nat → Nat → α) (k : Nat) (v : α) (h : a < 1282) : up2 (fun a k => if a < 1282 then f a k else g a k) a k v = fun b j => if b < 1282 then up2 f a k v b j else g b j := by
  funext b j
  show (if b = a ∧ j = k then v else if b < 1282 then f b j else g b j) = if b < 1282 then (if b = a ∧ j = k then v else f b j) else g b j
  by_cases h1 : b = a ∧ j = k
  · rw [if_pos h1, if_pos h1, if_pos (by omega)]
  · rw [if_neg h1, if_neg h1]
theorem up2_ite2 {α : Type} (f g : Nat → Nat → α) (k : Nat) (v : α) (h : 1282 ≤ a) : up2 (fun a k => if a < 1282 then f a k else g a k) a k v = fun b j => if b < 1282 then f b j else up2 g a k v b j := by
  funext b j
  show (if b = a ∧ j = k then v else if b < 1282 then f b j else g b j) = if b < 1282 then f b j else (if b = a ∧ j = k then v else g b j)
  by_cases h1 : b = a ∧ j = k
  · rw [if_pos h1, if_pos h1, if_neg (by omega)]
  · rw [if_neg h1, if_neg h1]
theorem sI_c (h : a < 1282) (k : Nat) (v : Int32) : sI (mg κ ρ) a k v = mg (sI κ a k v) ρ := by
  unfold sI mg
  simp only [up2_ite _ _ _ _ h]
theorem sJ_c (h : a < 1282) (k : Nat) (v : Int64) : sJ (mg κ ρ) a k v = mg (sJ κ a k v) ρ := by
  unfold sJ mg
  simp only [up2_ite _ _ _ _ h]
theorem sR_c (h : a < 1282) (k v : Nat) : sR (mg κ ρ) a k v = mg (sR κ a k v) ρ := by
  unfold sR mg
  simp only [up2_ite _ _ _ _ h]
theorem sI_m (h : 1282 ≤ a) (k : Nat) (v : Int32) : sI (mg κ ρ) a k v = mg κ (sI ρ a k v) := by
  unfold sI mg
  simp only [up2_ite2 _ _ _ _ h]
theorem sJ_m (h : 1282 ≤ a) (k : Nat) (v : Int64) : sJ (mg κ ρ) a k v = mg κ (sJ ρ a k v) := by
  unfold sJ mg
  simp only [up2_ite2 _ _ _ _ h]
theorem sC_c (h : a < 1282) (h2 : b < 1282) (i j n : Nat) : sC (mg κ ρ) a i b j n = mg (sC κ a i b j n) ρ := by
  unfold sC mg
  simp only
  refine congrArg (fun f => (f, _, _)) ?_
  funext q k
  by_cases h1 : q = b ∧ j ≤ k ∧ k < j + n
  · rw [if_pos h1, if_pos h1, if_pos h, if_pos (by omega)]
  · rw [if_neg h1, if_neg h1]
end MG
/-! reads behind writes, by side conditions -/
theorem I_is (σ : Mem) (a k : Nat) (v : Int32) : mI (sI σ a k v) a k = v := if_pos ⟨rfl, rfl⟩
theorem I_cl {σ : Mem} {a b k j : Nat} {v : Int32} (h : b ≠ a) : mI (sI σ a k v) b j = mI σ b j := if_neg (fun e => h e.1)
theorem I_sl {σ : Mem} {a b k j : Nat} {v : Int32} (h : j ≠ k) : mI (sI σ a k v) b j = mI σ b j := if_neg (fun e => h e.2)
theorem J_is (σ : Mem) (a k : Nat) (v : Int64) : mJ (sJ σ a k v) a k = v := if_pos ⟨rfl, rfl⟩
theorem J_cl {σ : Mem} {a b k j : Nat} {v : Int64} (h : b ≠ a) : mJ (sJ σ a k v) b j = mJ σ b j := if_neg (fun e => h e.1)
theorem J_sl {σ : Mem} {a b k j : Nat} {v : Int64} (h : j ≠ k) : mJ (sJ σ a k v) b j = mJ σ b j := if_neg (fun e => h e.2)
theorem R_is (σ : Mem) (a k v : Nat) : mR (sR σ a k v) a k = v := if_pos ⟨rfl, rfl⟩
theorem R_cl {σ : Mem} {a b k j v : Nat} (h : b ≠ a) : mR (sR σ a k v) b j = mR σ b j := if_neg (fun e => h e.1)
theorem R_sl {σ : Mem} {a b k j v : Nat} (h : j ≠ k) : mR (sR σ a k v) b j = mR σ b j := if_neg (fun e => h e.2)
theorem sC_R (σ : Mem) (a i b j n c k : Nat) : mR (sC σ a i b j n) c k = mR σ c k := rfl
theorem sC_J (σ : Mem) (a i b j n c k : Nat) : mJ (sC σ a i b j n) c k = mJ σ c k := rfl
theorem sC_cl {σ : Mem} {a i b j n c k : Nat} (h : c ≠ b) : mI (sC σ a i b j n) c k = mI σ c k := if_neg (fun e => h e.1)
theorem sC_in {σ : Mem} {a i b j n k : Nat} (h1 : j ≤ k) (h2 : k < j + n) : mI (sC σ a i b j n) b k = mI σ a (i + (k - j)) := if_pos ⟨rfl, h1, h2⟩
theorem sC_out {σ : Mem} {a i b j n k : Nat} (h1 : k < j ∨ j + n ≤ k) : mI (sC σ a i b j n) b k = mI σ b k := if_neg (fun e => by omega)
/-! numbers -/
theorem vI {n N : Nat} (h : n < 2147483648) : vp_in (nI n) N ↔ n < N := by
  unfold vp_in
  rw [nI_clamp (by omega)]
  constructor
  · intro h1
    omega
  · intro h1 h2
    rcases h2 with h2 | h2
    · exact nI_pos (by omega) h2
    · omega
theorem cI {n : Nat} (h : n < 2147483648) : (nI n).toNatClampNeg = n := nI_clamp (by omega)
theorem eI {a b : Nat} (ha : a < 2147483648) (hb : b < 2147483648) : (nI a = nI b) ↔ a = b := nI_eq (by omega) (by omega)
theorem lI {a b : Nat} (ha : a < 2147483648) (hb : b < 2147483648) : (nI a ≤ nI b) ↔ a ≤ b := nI_leI (by omega) (by omega)
theorem tI {a b : Nat} (ha : a < 2147483648) (hb : b < 2147483648) : (nI a < nI b) ↔ a < b := nI_ltI (by omega) (by omega)
theorem pI {a : Nat} (ha : a < 2147483648) : ¬ nI a < 0 := nI_pos (by omega)
theorem mI1 {a : Nat} (ha : a < 2147483648) : ¬ nI a = -1 := by
  intro h
  have h1 := nI_toInt (n := a) (by omega)
  rw [h] at h1
  have h2 : (-1 : Int32).toInt = -1 := by decide
  omega
theorem dI {a d : Nat} (ha : a < 2147483648) (h0 : 0 < d) (hd : d < 2147483648) : nI a / nI d = nI (a / d) := pk_div (by omega) h0 (by omega)
/-- any int is below 0 or a small number -/
theorem iI (x : Int32) : x < 0 ∨ ∃ n : Nat, n < 2147483648 ∧ x = nI n := by
  by_cases h : x < 0
  · exact Or.inl h
  · obtain ⟨j, h1, h2⟩ := nI_of h
    exact Or.inr ⟨j, by omega, h2⟩
theorem nls : (2 : Int32) = nI 2 ∧ (3 : Int32) = nI 3 ∧ (4 : Int32) = nI 4 ∧ (5 : Int32) = nI 5 ∧ (6 : Int32) = nI 6 ∧ (8 : Int32) = nI 8 ∧ (12 : Int32) = nI 12 ∧ (13 : Int32) = nI 13 ∧ (16 : Int32) = nI 16 ∧ (20 : Int32) = nI 20 ∧ (60 : Int32) = nI 60 ∧ (64 : Int32) = nI 64 ∧ (100 : Int32) = nI 100 ∧ (240 : Int32) = nI 240 ∧ (3000 : Int32) = nI 3000 ∧ (3840 : Int32) = nI 3840 ∧ (1600 : Int32) = nI 1600 ∧ (52 : Int32) = nI 52 ∧ (255 : Int32) = nI 255 := ⟨rfl, rfl, rfl, rfl, rfl, rfl, rfl, rfl, rfl, rfl, rfl, rfl, rfl, rfl, rfl, rfl, rfl, rfl, rfl⟩
theorem n0 : (0 : Int32) = nI 0 := rfl
theorem n1 : (1 : Int32) = nI 1 := rfl
/-! branches -/
theorem brT {P A B : Prop} (c : P) (h : A) : (P → A) ∧ (¬ P → B) := ⟨fun _ => h, fun e => absurd c e⟩
theorem brF {P A B : Prop} (c : ¬ P) (h : B) : (P → A) ∧ (¬ P → B) := ⟨fun e => absurd e c, fun _ => h⟩
theorem br1 {A B : Prop} (h : B) : ((1 : Int32) = 0 → A) ∧ (¬ (1 : Int32) = 0 → B) := brF (by decide) h
theorem br0 {A B : Prop} (h : A) : ((0 : Int32) = 0 → A) ∧ (¬ (0 : Int32) = 0 → B) := brT rfl h
theorem bz0 : bz (0 : Int32) := Or.inl rfl
theorem bz1 : bz (1 : Int32) := Or.inr rfl
/-! loops that count -/
theorem Lw.nat {α : Type} {F : (α → Prop) → α → Prop} (n : Nat) (J : Nat → α → Prop) (hs : ∀ (K : α → Prop) (i : Nat) (x : α), i ≤ n → J i x → (∀ y, i < n → J (i + 1) y → K y) → F K x) (i : Nat) (hi : i ≤ n) (x : α) (h : J i x) : Lw F x := by
  have key : ∀ (d i : Nat) (x : α), i ≤ n → n - i < d → J i x → Lp F d x := by
    intro d
    induction d with
    | zero => intro i x _ h; omega
    | succ d ih => intro i x hi hd hx; exact hs _ i x hi hx (fun y hlt hy => ih (i + 1) y (by omega) (by omega) hy)
  exact ⟨n - i + 1, key _ i x hi (by omega) h⟩
/-- a search: the memory stays; P tells where it ends -/
theorem Lw.find {F : (Int32 × Mem → Prop) → Int32 × Mem → Prop} {σ : Mem} (n : Nat) (P : Nat → Prop) (hs : ∀ (K : Int32 × Mem → Prop) (i : Nat), i ≤ n → (∀ j, j < i → ¬ P j) → (i < n → ¬ P i → K (nI (i + 1), σ)) → F K (nI i, σ)) : Lw F (0, σ) := by
  refine Lw.nat n (fun i x => x = (nI i, σ) ∧ ∀ j, j < i → ¬ P j) ?_ 0 (Nat.zero_le _) _ ⟨rfl, fun j h => by omega⟩
  intro K i x hi ⟨e, hj⟩ hk
  subst e
  refine hs K i hi hj (fun hlt hp => hk _ hlt ⟨rfl, fun j hlt2 => ?_⟩)
  by_cases e : j = i
  · subst e; exact hp
  · exact hj j (by omega)
/-! runs: of the class, whatever the reference's cells are; of the reference, whatever the class's are -/
def RunC {α : Type} (X : (α → Mem → Prop) → Mem → Prop) (κ : Mem) (w : α) (κ' : Mem) : Prop := ∀ (ρ : Mem) (Q : α → Mem → Prop), Q w (mg κ' ρ) → X Q (mg κ ρ)
def RunM {α : Type} (X : (α → Mem → Prop) → Mem → Prop) (ρ : Mem) (w : α) (ρ' : Mem) : Prop := ∀ (κ : Mem) (Q : α → Mem → Prop), Q w (mg κ ρ') → X Q (mg κ ρ)
/-! the same as rewriting rules whose conditions omega decides -/
theorem lT {a b : Nat} (h : a ≤ b) (hb : b < 2147483648) : (nI a ≤ nI b) = True := eq_true ((lI (by omega) hb).mpr h)
theorem lF {a b : Nat} (h : b < a) (ha : a < 2147483648) : (nI a ≤ nI b) = False := eq_false (fun e => by have := (lI ha (by omega)).mp e; omega)
theorem tT {a b : Nat} (h : a < b) (hb : b < 2147483648) : (nI a < nI b) = True := eq_true ((tI (by omega) hb).mpr h)
theorem tF {a b : Nat} (h : b ≤ a) (ha : a < 2147483648) : (nI a < nI b) = False := eq_false (fun e => by have := (tI ha (by omega)).mp e; omega)
theorem eT {a b : Nat} (h : a = b) : (nI a = nI b) = True := eq_true (by rw [h])
theorem eF {a b : Nat} (h : a ≠ b) (ha : a < 2147483648) (hb : b < 2147483648) : (nI a = nI b) = False := eq_false (fun e => h ((eI ha hb).mp e))
theorem pF {a : Nat} (h : a < 2147483648) : (nI a < 0) = False := eq_false (pI h)
theorem zT {a : Nat} (h : a < 2147483648) : (0 ≤ nI a) = True := eq_true (Int32.not_lt.mp (pI h))
theorem e0F {a : Nat} (h : 0 < a) (ha : a < 2147483648) : (nI a = 0) = False := eF (b := 0) (by omega) ha (by omega)
theorem m1F {a : Nat} (h : a < 2147483648) : (nI a = -1) = False := eq_false (mI1 h)
theorem vT {n N : Nat} (h : n < N) (hN : N ≤ 2147483648) : vp_in (nI n) N = True := eq_true ((vI (by omega)).mpr h)
theorem bzT1 : (bz 1) = True := eq_true bz1
theorem bzT0 : (bz 0) = True := eq_true bz0
theorem m10 : ((-1 : Int32) < 0) = True := eq_true (by decide)
theorem m1z : (0 ≤ (-1 : Int32)) = False := eq_false (by decide)
theorem o0F : ((1 : Int32) = 0) = False := eq_false (by decide)
