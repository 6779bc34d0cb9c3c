/-! what a class is: by the row of parents -/
def isaB (p : Nat → Int32) : Nat → Nat → Nat → Bool
  | 0, _, _ => false
  | f + 1, c, d => if c = d then true else if p c < 0 then false else isaB p f (p c).toNatClampNeg d
def isa (p : Nat → Int32) (c d : Nat) : Bool := isaB p (c + 1) c d
/-- parents come ahead -/
def ParW (p : Nat → Int32) (n : Nat) : Prop := ∀ c, c < n → p c = -1 ∨ ∃ q, q < c ∧ p c = nI q
theorem m1_neg : (-1 : Int32) < 0 := by decide
theorem isaB_f {p : Nat → Int32} {n d : Nat} (h : ParW p n) (hn : n ≤ 12) : ∀ c, c < n → ∀ f, c < f → isaB p f c d = isaB p (c + 1) c d := by
  intro c
  induction c using Nat.strongRecOn with
  | _ c ih =>
    intro hc f hf
    obtain ⟨f, rfl⟩ : ∃ g, f = g + 1 := ⟨f - 1, by omega⟩
    unfold isaB
    rcases h c hc with e | ⟨q, hq, e⟩
    · rw [e, if_pos m1_neg, if_pos m1_neg]
    · rw [e, if_neg (pI (by omega)), if_neg (pI (by omega)), cI (by omega), ih q hq (by omega) f (by omega), ih q hq (by omega) c (by omega)]
theorem isa_self (p : Nat → Int32) (c : Nat) : isa p c c = true := by
  unfold isa isaB
  rw [if_pos rfl]
theorem isa_root {p : Nat → Int32} {c d : Nat} (h : p c = -1) (hd : c ≠ d) : isa p c d = false := by
  unfold isa isaB
  rw [if_neg hd, h, if_pos m1_neg]
theorem isa_up {p : Nat → Int32} {n c d q : Nat} (h : ParW p n) (hn : n ≤ 12) (hc : c < n) (hq : q < c) (e : p c = nI q) (hd : c ≠ d) : isa p c d = isa p q d := by
  have h1 := isaB_f (d := d) h hn q (by omega) c hq
  unfold isa
  rw [← h1]
  show (if c = d then true else if p c < 0 then false else isaB p c (p c).toNatClampNeg d) = _
  rw [if_neg hd, e, if_neg (pI (by omega)), cI (by omega)]
theorem isa_le {p : Nat → Int32} {n d : Nat} (h : ParW p n) (hn : n ≤ 12) : ∀ c, c < n → isa p c d = true → d ≤ c := by
  intro c
  induction c using Nat.strongRecOn with
  | _ c ih =>
    intro hc hi
    by_cases hd : c = d
    · omega
    · rcases h c hc with e | ⟨q, hq, e⟩
      · rw [isa_root e hd] at hi; cases hi
      · rw [isa_up h hn hc hq e hd] at hi
        have := ih q hq (by omega) hi
        omega
/-! the schema that is in force: the class's (cell sc) and the reference's lower half: n classes, mc members, rt roots, hc hooks -/
abbrev par (ρ : Mem) : Nat → Int32 := fun c => mI ρ 1285 c
def ClsR (sc : Nat) (mc rt hc : Nat → Nat) (κ ρ : Mem) (c : Nat) : Prop :=
  mI κ (sc + 4 + 5 * c) 1 = mI ρ 1285 c ∧ mI κ (sc + 4 + 5 * c) 2 = nI (rt c) ∧ (mI κ (sc + 4 + 5 * c) 3 = mI ρ 1286 c ∧ (mI ρ 1286 c = 0 ∨ mI ρ 1286 c = 1 ∨ mI ρ 1286 c = 2)) ∧
  mI κ (sc + 4 + 5 * c) 4 = nI (mc c) ∧ mI ρ 1287 c = nI (mc c) ∧ mc c ≤ 16 ∧
  mI κ (sc + 4 + 5 * c) 6 = nI (hc c) ∧ mI ρ 1288 c = nI (hc c) ∧ hc c ≤ 4
def HeiR (mc rt : Nat → Nat) (ρ : Mem) (c : Nat) : Prop :=
  mI ρ 1285 c = -1 ∧ rt c = c ∨ ∃ p, p < c ∧ mI ρ 1285 c = nI p ∧ rt c = rt p ∧ mc p ≤ mc c ∧ mI ρ 1286 c = mI ρ 1286 p ∧ ∀ m, m < mc p → (mI ρ 1290 (16 * c + m) = mI ρ 1290 (16 * p + m) ∧ mI ρ 1291 (16 * c + m) = mI ρ 1291 (16 * p + m) ∧ mI ρ 1293 (16 * c + m) = mI ρ 1293 (16 * p + m) ∧ mI ρ 1294 (16 * c + m) = mI ρ 1294 (16 * p + m) ∧ mI ρ 1295 (16 * c + m) = mI ρ 1295 (16 * p + m) ∧ mI ρ 1296 (16 * c + m) = mI ρ 1296 (16 * p + m))
/-- where a class's own members begin -/
def ownFrom (mc : Nat → Nat) (ρ : Mem) (c : Nat) : Nat := if mI ρ 1285 c < 0 then 0 else mc (mI ρ 1285 c).toNatClampNeg
def MemR (sc : Nat) (κ ρ : Mem) (c m : Nat) : Prop :=
  (sc + 64 ≤ mR κ (sc + 5 + 5 * c) m ∧ mR κ (sc + 5 + 5 * c) m < sc + 256) ∧
  mI κ (mR κ (sc + 5 + 5 * c) m) 1 = mI ρ 1296 (16 * c + m) ∧ mI κ (mR κ (sc + 5 + 5 * c) m) 2 = mI ρ 1290 (16 * c + m) ∧ mI κ (mR κ (sc + 5 + 5 * c) m) 3 = mI ρ 1294 (16 * c + m) ∧ mI κ (mR κ (sc + 5 + 5 * c) m) 5 = mI ρ 1293 (16 * c + m) ∧
  (4 ≤ mI ρ 1290 (16 * c + m) → mI κ (mR κ (sc + 5 + 5 * c) m) 8 = mI ρ 1291 (16 * c + m)) ∧
  (mI ρ 1290 (16 * c + m) = 5 → mI κ (mR κ (sc + 5 + 5 * c) m) 11 = mI ρ 1295 (16 * c + m))
/-- what a member is, in the reference's words -/
def MemW (n : Nat) (mc : Nat → Nat) (ρ : Mem) (c m : Nat) : Prop :=
  (∃ k, k ≤ 5 ∧ mI ρ 1290 (16 * c + m) = nI k ∧ (3 ≠ k → mI ρ 1293 (16 * c + m) = 0) ∧ (∃ f, f ≤ 6 ∧ mI ρ 1294 (16 * c + m) = nI f ∧ (k < 4 → f ≤ 1) ∧ (k = 4 → f % 2 = 0) ∧ (k = 5 → f = 0 ∨ f = 4)) ∧
    (4 ≤ k → ∃ t, t < n ∧ mI ρ 1291 (16 * c + m) = nI t ∧ (k = 5 → ∃ b, b < mc t ∧ mI ρ 1295 (16 * c + m) = nI b ∧ mI ρ 1290 (16 * t + b) = 4))) ∧
  (∃ o, o ≤ c ∧ mI ρ 1296 (16 * c + m) = nI o ∧ m < mc o ∧ ownFrom mc ρ o ≤ m ∧ isa (par ρ) c o = true)
def HokR (sc : Nat) (mc : Nat → Nat) (κ ρ : Mem) (c h : Nat) : Prop :=
  (mI κ (sc + 6 + 5 * c) h = 1 ∧ mI ρ 1301 (4 * c + h) = 0 ∨ mI κ (sc + 6 + 5 * c) h = 0 ∧ mI ρ 1301 (4 * c + h) = 1) ∧
  (∃ m, m < mc c ∧ mI κ (sc + 7 + 5 * c) h = nI m ∧ mI ρ 1302 (4 * c + h) = nI m ∧ mI ρ 1290 (16 * c + m) = 0) ∧ mI κ (sc + 8 + 5 * c) h = mI ρ 1303 (4 * c + h)
def RelS (sc n : Nat) (mc rt hc : Nat → Nat) (κ ρ : Mem) : Prop :=
  (sc = 14 ∨ sc = 275) ∧ mR κ 13 0 = sc ∧ mR κ 1 7 = 289 - sc ∧ mI κ sc 0 = nI n ∧ mI ρ 1282 2 = nI n ∧ n ≤ 12 ∧
  (∀ c, c < n → ClsR sc mc rt hc κ ρ c) ∧ (∀ c, c < n → HeiR mc rt ρ c) ∧ (∀ c, c < n → ∀ m, m < mc c → MemR sc κ ρ c m) ∧ (∀ c, c < n → ∀ m, m < mc c → MemW n mc ρ c m) ∧ (∀ c, c < n → ∀ h, h < hc c → HokR sc mc κ ρ c h)
theorem RelS.par {sc n : Nat} {mc rt hc : Nat → Nat} {κ ρ : Mem} (h : RelS sc n mc rt hc κ ρ) : ParW (par ρ) n := by
  intro c hc
  rcases h.2.2.2.2.2.2.2.1 c hc with ⟨e, -⟩ | ⟨p, hp, e, -⟩
  · exact Or.inl e
  · exact Or.inr ⟨p, hp, e⟩
theorem RelS.rt_lt {sc n : Nat} {mc rt hc : Nat → Nat} {κ ρ : Mem} (h : RelS sc n mc rt hc κ ρ) : ∀ c, c < n → rt c ≤ c := by
  intro c
  induction c using Nat.strongRecOn with
  | _ c ih =>
    intro hc
    rcases h.2.2.2.2.2.2.2.1 c hc with ⟨-, e⟩ | ⟨p, hp, -, e, -⟩
    · omega
    · have := ih p hp (by omega)
      omega
