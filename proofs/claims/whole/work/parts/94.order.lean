/-! putting things in order, by a rank: a row of numbers, and what an insertion does to it -/
section ORDER
variable {rk : Nat → Nat} {sel p : Nat → Bool} {L : List Nat} {x y n : Nat}
def insR (rk : Nat → Nat) (x : Nat) (L : List Nat) : List Nat := L.filter (fun y => decide (¬ rk x < rk y)) ++ x :: L.filter (fun y => decide (rk x < rk y))
def ordN (rk : Nat → Nat) (sel : Nat → Bool) : Nat → List Nat
  | 0 => []
  | n + 1 => if sel n = true then insR rk n (ordN rk sel n) else ordN rk sel n
abbrev SrR (rk : Nat → Nat) (L : List Nat) : Prop := L.Pairwise (fun a b => rk a < rk b)
theorem SrR.split (x : Nat) (h : SrR rk L) : L.filter (fun y => decide (¬ rk x < rk y)) ++ L.filter (fun y => decide (rk x < rk y)) = L := by
  induction L with
  | nil => rfl
  | cons y L ih =>
    obtain ⟨h1, h2⟩ := List.pairwise_cons.mp h
    by_cases e : rk x < rk y
    · have a1 : L.filter (fun y => decide (¬ rk x < rk y)) = [] := by
        rw [List.filter_eq_nil_iff]
        intro z hz hh
        have := h1 z hz
        have := of_decide_eq_true hh
        omega
      have a2 : L.filter (fun y => decide (rk x < rk y)) = L := by
        rw [List.filter_eq_self]
        intro z hz
        have := h1 z hz
        exact decide_eq_true (by omega)
      rw [List.filter_cons_of_neg (by simpa using e), List.filter_cons_of_pos (by simpa using e), a1, a2]
      rfl
    · rw [List.filter_cons_of_pos (by simpa using e), List.filter_cons_of_neg (by simpa using e), List.cons_append, ih h2]
theorem mem_ins : y ∈ insR rk x L ↔ y = x ∨ y ∈ L := by
  unfold insR
  rw [List.mem_append, List.mem_cons, List.mem_filter, List.mem_filter]
  refine ⟨fun h => ?_, fun h => ?_⟩
  · rcases h with h | h | h
    · exact Or.inr h.1
    · exact Or.inl h
    · exact Or.inr h.1
  · rcases h with h | h
    · exact Or.inr (Or.inl h)
    · by_cases e : rk x < rk y
      · exact Or.inr (Or.inr ⟨h, decide_eq_true e⟩)
      · exact Or.inl ⟨h, decide_eq_true e⟩
theorem SrR.ins (h : SrR rk L) (hx : ∀ y ∈ L, rk y ≠ rk x) : SrR rk (insR rk x L) := by
  unfold insR
  refine List.pairwise_append.mpr ⟨h.filter _, List.pairwise_cons.mpr ⟨fun z hz => ?_, h.filter _⟩, fun a ha b hb => ?_⟩
  · exact of_decide_eq_true (List.mem_filter.mp hz).2
  · have ha' := List.mem_filter.mp ha
    have h1 := of_decide_eq_true ha'.2
    have h2 := hx a ha'.1
    rcases List.mem_cons.mp hb with e | hb
    · subst e; omega
    · have := of_decide_eq_true (List.mem_filter.mp hb).2
      omega
theorem len_ins (h : SrR rk L) : (insR rk x L).length = L.length + 1 := by
  have e := congrArg List.length (h.split x)
  rw [List.length_append] at e
  unfold insR
  rw [List.length_append, List.length_cons]
  omega
theorem filter_ins (h : SrR rk L) : (insR rk x L).filter p = if p x = true then insR rk x (L.filter p) else L.filter p := by
  by_cases hp : p x = true
  · rw [if_pos hp]
    unfold insR
    rw [List.filter_append, List.filter_cons_of_pos hp, List.filter_filter, List.filter_filter, List.filter_filter, List.filter_filter]
    congr 2
    · funext a; exact Bool.and_comm _ _
    · congr 1
      funext a; exact Bool.and_comm _ _
  · rw [if_neg hp]
    conv => rhs; rw [← h.split x]
    unfold insR
    rw [List.filter_append, List.filter_append, List.filter_cons_of_neg hp]
theorem ordN_mem : y ∈ ordN rk sel n ↔ y < n ∧ sel y = true := by
  induction n with
  | zero => exact ⟨fun h => absurd h (by simp [ordN]), fun h => by omega⟩
  | succ n ih =>
    unfold ordN
    by_cases hs : sel n = true
    · rw [if_pos hs, mem_ins, ih]
      refine ⟨fun h => ?_, fun h => ?_⟩
      · rcases h with rfl | h
        · exact ⟨by omega, hs⟩
        · exact ⟨by omega, h.2⟩
      · by_cases e : y = n
        · exact Or.inl e
        · exact Or.inr ⟨by omega, h.2⟩
    · rw [if_neg hs, ih]
      refine ⟨fun h => ⟨by omega, h.2⟩, fun h => ⟨?_, h.2⟩⟩
      have : y ≠ n := fun e => hs (by rw [← e]; exact h.2)
      omega
theorem ordN_srt (h : ∀ a b, a < n → b < n → sel a = true → sel b = true → rk a = rk b → a = b) : SrR rk (ordN rk sel n) := by
  induction n with
  | zero => exact List.Pairwise.nil
  | succ n ih =>
    have i := ih (fun a b ha hb => h a b (by omega) (by omega))
    unfold ordN
    by_cases hs : sel n = true
    · rw [if_pos hs]
      refine i.ins (fun y hy e => ?_)
      obtain ⟨h1, h2⟩ := ordN_mem.mp hy
      have := h y n (by omega) (by omega) h2 hs e
      omega
    · rw [if_neg hs]; exact i
theorem ordN_filter (h : ∀ a b, a < n → b < n → sel a = true → sel b = true → rk a = rk b → a = b) : (ordN rk sel n).filter p = ordN rk (fun k => sel k && p k) n := by
  induction n with
  | zero => rfl
  | succ n ih =>
    have hh := fun a b ha hb => h a b (Nat.lt_succ_of_lt ha) (Nat.lt_succ_of_lt hb)
    have i := ih hh
    unfold ordN
    by_cases hs : sel n = true
    · rw [if_pos hs, filter_ins (ordN_srt hh), i]
      by_cases hp : p n = true
      · rw [if_pos hp, if_pos (by show (sel n && p n) = true; rw [hs, hp]; rfl)]
      · rw [if_neg hp, if_neg (by show ¬ (sel n && p n) = true; rw [hs, Bool.true_and]; exact hp)]
    · rw [if_neg hs, if_neg (fun z => hs (Bool.and_eq_true_iff.mp z).1), i]
theorem ordN_len (h : ∀ a b, a < n → b < n → sel a = true → sel b = true → rk a = rk b → a = b) : (ordN rk sel n).length ≤ n := by
  induction n with
  | zero => exact Nat.le_refl _
  | succ n ih =>
    have hh := fun a b ha hb => h a b (Nat.lt_succ_of_lt ha) (Nat.lt_succ_of_lt hb)
    have i := ih hh
    unfold ordN
    by_cases hs : sel n = true
    · rw [if_pos hs, len_ins (ordN_srt hh)]; omega
    · rw [if_neg hs]; omega
/-- the place of an insertion -/
theorem SrR.place (x : Nat) (h : SrR rk L) : ∃ q, q ≤ L.length ∧ (∀ i, q ≤ i → i < L.length → rk x < rk (L.getD i 0)) ∧ (q = 0 ∨ ¬ rk x < rk (L.getD (q - 1) 0)) ∧ ∀ i, i ≤ L.length → (insR rk x L).getD i 0 = if i < q then L.getD i 0 else if i = q then x else L.getD (i - 1) 0 := by
  have e := h.split x
  have hA : ∀ a ∈ L.filter (fun y => decide (¬ rk x < rk y)), ¬ rk x < rk a := fun a ha => of_decide_eq_true (List.mem_filter.mp ha).2
  have hB : ∀ a ∈ L.filter (fun y => decide (rk x < rk y)), rk x < rk a := fun a ha => of_decide_eq_true (List.mem_filter.mp ha).2
  unfold insR
  generalize L.filter (fun y => decide (¬ rk x < rk y)) = A at e hA ⊢
  generalize L.filter (fun y => decide (rk x < rk y)) = B at e hB ⊢
  subst e
  refine ⟨A.length, by rw [List.length_append]; omega, fun i h1 h2 => ?_, ?_, fun i hi => ?_⟩
  · rw [List.length_append] at h2
    rw [List.getD_eq_getElem?_getD, List.getElem?_append_right h1, List.getElem?_eq_getElem (by omega)]
    exact hB _ (List.getElem_mem _)
  · by_cases h0 : A.length = 0
    · exact Or.inl h0
    · refine Or.inr ?_
      rw [List.getD_eq_getElem?_getD, List.getElem?_append_left (by omega), List.getElem?_eq_getElem (by omega)]
      exact hA _ (List.getElem_mem _)
  · simp only [List.getD_eq_getElem?_getD]
    by_cases h1 : i < A.length
    · rw [if_pos h1, List.getElem?_append_left h1, List.getElem?_append_left h1]
    · rw [if_neg h1, List.getElem?_append_right (by omega)]
      by_cases h2 : i = A.length
      · rw [if_pos h2, h2, Nat.sub_self]; rfl
      · rw [if_neg h2, List.getElem?_append_right (by omega)]
        obtain ⟨j, hj⟩ : ∃ j, i - A.length = j + 1 := ⟨i - A.length - 1, by omega⟩
        rw [hj, List.getElem?_cons_succ, show i - 1 - A.length = j by omega]
end ORDER
