/-! the abstract memory: how many cells, how many slots; of a cell (from 1 on; 0 is null) its kind, its length, its ints, longs, references -/
abbrev Lay : Type := (Nat × Nat) × (Nat → Nat) × (Nat → Nat)
def gN (G : Lay) : Nat := G.1.1
def gZ (G : Lay) : Nat := G.1.2
def gT (G : Lay) (a : Nat) : Nat := G.2.1 a
def gL (G : Lay) (a : Nat) : Nat := G.2.2 a
abbrev Mem : Type := (Nat → Nat → Int32) × (Nat → Nat → Int64) × (Nat → Nat → Nat)
def mI (σ : Mem) (a k : Nat) : Int32 := σ.1 a k
def mJ (σ : Mem) (a k : Nat) : Int64 := σ.2.1 a k
def mR (σ : Mem) (a k : Nat) : Nat := σ.2.2 a k
def up2 {α : Type} (f : Nat → Nat → α) (a k : Nat) (v : α) : Nat → Nat → α := fun b j => if b = a ∧ j = k then v else f b j
def sI (σ : Mem) (a k : Nat) (v : Int32) : Mem := (up2 σ.1 a k v, σ.2.1, σ.2.2)
def sJ (σ : Mem) (a k : Nat) (v : Int64) : Mem := (σ.1, up2 σ.2.1 a k v, σ.2.2)
def sR (σ : Mem) (a k : Nat) (v : Nat) : Mem := (σ.1, σ.2.1, up2 σ.2.2 a k v)
/-- n ints of cell a from place i on come to cell b from place j on -/
def sC (σ : Mem) (a i b j n : Nat) : Mem := ((fun q k => if q = b ∧ j ≤ k ∧ k < j + n then σ.1 a (i + (k - j)) else σ.1 q k), σ.2.1, σ.2.2)
/-- a new cell: its kind, its length, how many slots it has -/
def gA (G : Lay) (t n z : Nat) : Lay := ((G.1.1 + 1, G.1.2 + z), (fun b => if b = G.1.1 + 1 then t else G.2.1 b), (fun b => if b = G.1.1 + 1 then n else G.2.2 b))
def sZ (σ : Mem) (a : Nat) : Mem := ((fun b j => if b = a then 0 else σ.1 b j), (fun b j => if b = a then 0 else σ.2.1 b j), (fun b j => if b = a then 0 else σ.2.2 b j))
/-! loops -/
def Lp {α : Type} (F : (α → Prop) → α → Prop) : Nat → α → Prop
  | 0, _ => False
  | n + 1, a => F (Lp F n) a
def Lw {α : Type} (F : (α → Prop) → α → Prop) (a : α) : Prop := ∃ n, Lp F n a
/-- what a loop comes to, by a measure that falls -/
theorem Lw.by {α : Type} {F : (α → Prop) → α → Prop} (I : α → Prop) (μ : α → Nat) (hs : ∀ (K : α → Prop) (a : α), I a → (∀ b, I b → μ b < μ a → K b) → F K a) (a : α) (h : I a) : Lw F a := by
  have key : ∀ (n : Nat) (a : α), I a → μ a < n → Lp F n a := by
    intro n
    induction n with
    | zero => intro a _ h; exact absurd h (Nat.not_lt_zero _)
    | succ n ih => intro a ha hm; exact hs _ a ha (fun b hb hb2 => ih b hb (by omega))
  exact ⟨μ a + 1, key _ a h (by omega)⟩
/-! values -/
abbrev Vl : Type := Int32 ⊕ Int64 ⊕ Nat
def ro (b0 r : Nat) : Option Nat := if r = 0 then none else some (b0 + r)
def rv (b0 r : Nat) : Value := va_rf (ro b0 r)
def vv (b0 : Nat) (v : Vl) : Value := match v with
  | .inl x => .int x
  | .inr (.inl x) => .long x
  | .inr (.inr r) => rv b0 r
theorem rv_ref {b0 r : Nat} (h : r ≠ 0) : rv b0 r = .ref (b0 + r) := by simp [rv, ro, h, va_rf]
theorem rv_null {b0 : Nat} : rv b0 0 = .null := rfl
theorem rv_cat (b0 r : Nat) : (rv b0 r).category = 1 := by
  by_cases h : r = 0
  · subst h; rfl
  · rw [rv_ref h]; rfl
/-! kinds of cells: a class's number and 1; arrays from 100 on -/
def tyk (t : FieldType) : Nat := match t with
  | .long => 1
  | .object _ => 2
  | .array _ => 2
  | _ => 0
def cty (c : Nat) : Nat → FieldType := match c with
  | 1 => tyX0 | 2 => tyX1 | 3 => tyX2 | 4 => tyX3 | 5 => tyX4 | 6 => tyX5 | 7 => tyX6 | 8 => tyX7 | 9 => tyX8 | 10 => tyX9 | 11 => tyX10 | 12 => tyX11 | _ => tyX12
def cnum (c : Nat) : Nat := match c with
  | 1 => 3 | 2 => 10 | 3 => 12 | 4 => 4 | 5 => 6 | 6 => 6 | 7 => 6 | 8 => 11 | 9 => 7 | 10 => 8 | 11 => 14 | 12 => 13 | _ => 95
def sv (b0 : Nat) (σ : Mem) (c a k : Nat) : Value := match tyk (cty c k) with
  | 0 => .int (mI σ a k)
  | 1 => .long (mJ σ a k)
  | _ => rv b0 (mR σ a k)
def fsl (G : Lay) (b0 : Nat) (σ : Mem) (a : Nat) : List Value := (List.range (cnum (gT G a))).map (sv b0 σ (gT G a) a)
def con (G : Lay) (b0 : Nat) (σ : Mem) (a : Nat) : vp_A := (gL G a, if gT G a < 103 then .inl (mI σ a) else if gT G a = 103 then .inr (.inl (mJ σ a)) else .inr (.inr (.inr (.inr (fun j => ro b0 (mR σ a j))))))
def cel (G : Lay) (tc : Nat → ClassId) (b0 : Nat) (σ : Mem) (a : Nat) : va_E := if gT G a < 100 then .inr (gT G a - 1, fsl G b0 σ a) else .inl (tc (gT G a), con G b0 σ a)
def wd (G : Lay) (tc : Nat → ClassId) (b0 : Nat) (σ : Mem) : va_W := (List.range (gN G)).map (fun i => (b0 + (i + 1), cel G tc b0 σ (i + 1)))
def tys (tc : Nat → ClassId) : List (ClassId × FieldType) := [(tc 100, .int), (tc 101, .byte), (tc 102, .boolean), (tc 103, .long), (tc 104, .object "BeeRegister$Kind"), (tc 105, .object "BeeRegister$Member"), (tc 106, .object "BeeRegister$Thing"), (tc 107, .object "BeeRegister$Unit")]
def wfG (G : Lay) : Prop := ∀ a, gT G a ≠ 0 → 1 ≤ a ∧ a ≤ gN G
abbrev AA (b0 : Nat) : Nat → Prop := fun q => b0 < q
def Wd (G : Lay) (D : va_G) (tc : Nat → ClassId) (b0 : Nat) (σ : Mem) (H : Heap) : Prop := va_P D vwCl (wd G tc b0 σ) H ∧ wfG G
theorem wd_get {G : Lay} {tc : Nat → ClassId} {b0 : Nat} {σ : Mem} {a : Nat} (h : wfG G) (ha : gT G a ≠ 0) : (wd G tc b0 σ)[a - 1]? = some (b0 + a, cel G tc b0 σ a) := by
  obtain ⟨h1, h2⟩ := h a ha
  have h3 : a - 1 < gN G := by omega
  unfold wd
  rw [List.getElem?_map, List.getElem?_range h3]
  show some (b0 + (a - 1 + 1), cel G tc b0 σ (a - 1 + 1)) = _
  rw [Nat.sub_add_cancel h1]
theorem wd_at {G : Lay} {tc : Nat → ClassId} {b0 : Nat} {σ : Mem} {k : Nat} {q : Nat × va_E} (h : (wd G tc b0 σ)[k]? = some q) : k < gN G ∧ q = (b0 + (k + 1), cel G tc b0 σ (k + 1)) := by
  unfold wd at h
  rw [List.getElem?_map] at h
  by_cases hk : k < gN G
  · rw [List.getElem?_range hk] at h
    exact ⟨hk, (Option.some.inj h).symm⟩
  · rw [List.getElem?_eq_none (by simp; omega)] at h
    cases h
theorem wd_D (G : Lay) (tc : Nat → ClassId) (b0 : Nat) (σ : Mem) : va_D (AA b0) (wd G tc b0 σ) := by
  refine ⟨fun i j x y hx hy hxy => ?_, fun k q hk => ?_⟩
  · have h1 := (wd_at hx).2
    have h2 := (wd_at hy).2
    subst h1; subst h2
    have h3 : b0 + (i + 1) = b0 + (j + 1) := hxy
    omega
  · have h1 := (wd_at hk).2
    subst h1
    show b0 < b0 + (k + 1)
    omega
/-- the world behind a write into one cell: all others' cells are as they were -/
theorem wd_set {G : Lay} {tc : Nat → ClassId} {b0 : Nat} {σ σ' : Mem} {a : Nat} {e : va_E} (h : wfG G) (ha : gT G a ≠ 0) (he : cel G tc b0 σ' a = e) (ho : ∀ b, b ≠ a → cel G tc b0 σ' b = cel G tc b0 σ b) : (wd G tc b0 σ).set (a - 1) (b0 + a, e) = wd G tc b0 σ' := by
  obtain ⟨h1, h2⟩ := h a ha
  apply List.ext_getElem?
  intro k
  rw [List.getElem?_set]
  unfold wd
  simp only [List.getElem?_map, List.length_map, List.length_range]
  by_cases hk : a - 1 = k
  · subst hk
    rw [if_pos rfl, if_pos (by omega), List.getElem?_range (by omega)]
    show _ = some (b0 + (a - 1 + 1), cel G tc b0 σ' (a - 1 + 1))
    rw [Nat.sub_add_cancel h1, he]
  · rw [if_neg hk]
    by_cases hk2 : k < gN G
    · rw [List.getElem?_range hk2]
      show some (b0 + (k + 1), cel G tc b0 σ (k + 1)) = some (b0 + (k + 1), cel G tc b0 σ' (k + 1))
      rw [ho (k + 1) (by omega)]
    · rw [List.getElem?_eq_none (by simp; omega)]
      rfl
/-! the tables' words that a callee may take over from its caller -/
def gtbl : List Cond := lw_tbl.filter goodWord
theorem gm {w : Cond} (i : Nat) (h : lw_tbl[i]? = some w) (hg : goodWord w = true) : w ∈ gtbl := List.mem_filter.mpr ⟨List.mem_of_getElem? h, hg⟩
theorem gms {ws : List Cond} (ps : List Nat) (hp : ws = ps.filterMap (fun i => lw_tbl[i]?)) (hg : ws.all goodWord = true) : ∀ w ∈ ws, w ∈ gtbl := by
  intro w hw
  refine List.mem_filter.mpr ⟨?_, List.all_eq_true.mp hg w hw⟩
  rw [hp] at hw
  obtain ⟨i, -, hi⟩ := List.mem_filterMap.mp hw
  exact List.mem_of_getElem? hi
