/-! reads behind writes -/
theorem gT_A (G : Lay) (t n z a : Nat) : gT (gA G t n z) a = if a = gN G + 1 then t else gT G a := rfl
theorem gL_A (G : Lay) (t n z a : Nat) : gL (gA G t n z) a = if a = gN G + 1 then n else gL G a := rfl
theorem gN_A (G : Lay) (t n z : Nat) : gN (gA G t n z) = gN G + 1 := rfl
theorem gZ_A (G : Lay) (t n z : Nat) : gZ (gA G t n z) = gZ G + z := rfl
theorem mI_sI (σ : Mem) (a k b j : Nat) (v : Int32) : mI (sI σ a k v) b j = if b = a ∧ j = k then v else mI σ b j := rfl
theorem mI_sJ (σ : Mem) (a k b j : Nat) (v : Int64) : mI (sJ σ a k v) b j = mI σ b j := rfl
theorem mI_sR (σ : Mem) (a k b j v : Nat) : mI (sR σ a k v) b j = mI σ b j := rfl
theorem mJ_sI (σ : Mem) (a k b j : Nat) (v : Int32) : mJ (sI σ a k v) b j = mJ σ b j := rfl
theorem mJ_sJ (σ : Mem) (a k b j : Nat) (v : Int64) : mJ (sJ σ a k v) b j = if b = a ∧ j = k then v else mJ σ b j := rfl
theorem mJ_sR (σ : Mem) (a k b j v : Nat) : mJ (sR σ a k v) b j = mJ σ b j := rfl
theorem mR_sI (σ : Mem) (a k b j : Nat) (v : Int32) : mR (sI σ a k v) b j = mR σ b j := rfl
theorem mR_sJ (σ : Mem) (a k b j : Nat) (v : Int64) : mR (sJ σ a k v) b j = mR σ b j := rfl
theorem mR_sR (σ : Mem) (a k b j v : Nat) : mR (sR σ a k v) b j = if b = a ∧ j = k then v else mR σ b j := rfl
theorem mI_sZ (σ : Mem) (a b j : Nat) : mI (sZ σ a) b j = if b = a then 0 else mI σ b j := rfl
theorem mJ_sZ (σ : Mem) (a b j : Nat) : mJ (sZ σ a) b j = if b = a then 0 else mJ σ b j := rfl
theorem mR_sZ (σ : Mem) (a b j : Nat) : mR (sZ σ a) b j = if b = a then 0 else mR σ b j := rfl
/-- an object r that is being made: since (G0, σ0) the arrays 'as' (slot, kind, length) came, in this order; ints 'ns' and references 'rs' were put into it (each slot once); nothing else changed -/
def Mk (r : Nat) (G0 : Lay) (σ0 : Mem) (as : List (Nat × Nat × Nat)) (ns : List (Nat × Int32)) (rs : List (Nat × Nat)) (G : Lay) (σ : Mem) : Prop :=
  (1 ≤ r ∧ r ≤ gN G0) ∧ gN G = gN G0 + as.length ∧ gZ G = gZ G0 + (as.map (fun q => q.2.2)).sum ∧ (∀ a, a ≤ gN G0 → gT G a = gT G0 a ∧ gL G a = gL G0 a) ∧
  (∀ (j : Nat) (q : Nat × Nat × Nat), as[j]? = some q → gT G (gN G0 + 1 + j) = q.2.1 ∧ gL G (gN G0 + 1 + j) = q.2.2 ∧ mR σ r q.1 = gN G0 + 1 + j) ∧
  (∀ q ∈ ns, mI σ r q.1 = q.2) ∧ (∀ k, k ∉ ns.map (·.1) → mI σ r k = mI σ0 r k) ∧
  (∀ q ∈ rs, mR σ r q.1 = q.2) ∧ (∀ k, k ∉ as.map (·.1) → k ∉ rs.map (·.1) → mR σ r k = mR σ0 r k) ∧ (∀ k, mJ σ r k = mJ σ0 r k) ∧
  (∀ a k, a ≤ gN G0 → a ≠ r → mI σ a k = mI σ0 a k ∧ mJ σ a k = mJ σ0 a k ∧ mR σ a k = mR σ0 a k) ∧
  (∀ a k, gN G0 < a → a ≤ gN G → mI σ a k = 0 ∧ mJ σ a k = 0 ∧ mR σ a k = 0)
section MK
variable {r : Nat} {G0 : Lay} {σ0 : Mem} {as : List (Nat × Nat × Nat)} {ns : List (Nat × Int32)} {rs : List (Nat × Nat)} {G : Lay} {σ : Mem}
theorem Mk.rf (h1 : 1 ≤ r) (h2 : r ≤ gN G0) : Mk r G0 σ0 [] [] [] G0 σ0 := ⟨⟨h1, h2⟩, rfl, rfl, fun _ _ => ⟨rfl, rfl⟩, fun j q h => by simp at h, fun q h => by simp at h, fun _ _ => rfl, fun q h => by simp at h, fun _ _ _ => rfl, fun _ => rfl, fun _ _ _ _ => ⟨rfl, rfl, rfl⟩, fun a _ h1 h2 => by omega⟩
theorem Mk.r_lt (h : Mk r G0 σ0 as ns rs G σ) : r ≤ gN G := by
  have h1 := h.1.2
  have h2 := h.2.1
  omega
/-- one array more, into slot s -/
theorem Mk.arr (h : Mk r G0 σ0 as ns rs G σ) (s c n : Nat) (hs : s ∉ as.map (·.1)) (hs2 : s ∉ rs.map (·.1)) : Mk r G0 σ0 (as ++ [(s, c, n)]) ns rs (gA G c n n) (sR (sZ σ (gN G + 1)) r s (gN G + 1)) := by
  have hr := h.r_lt
  obtain ⟨h0, h1, h2, h3, h4, h5, h5b, h6, h6b, h7, h8, h9⟩ := h
  have hne : r ≠ gN G + 1 := by omega
  refine ⟨h0, ?_, ?_, ?_, ?_, ?_, ?_, ?_, ?_, ?_, ?_, ?_⟩
  · rw [gN_A, h1]; simp; omega
  · rw [gZ_A, h2]; simp; omega
  · intro a ha
    rw [gT_A, gL_A, if_neg (by omega), if_neg (by omega)]
    exact h3 a ha
  · intro j q hq
    by_cases hj : j < as.length
    · rw [List.getElem?_append_left hj] at hq
      have hq1 : q.1 ≠ s := fun e => hs (e ▸ List.mem_map.mpr ⟨q, List.mem_of_getElem? hq, rfl⟩)
      rw [gT_A, gL_A, if_neg (by omega), if_neg (by omega), mR_sR, mR_sZ, if_neg hne, if_neg (by simp [hq1])]
      exact h4 j q hq
    · have hj2 : j = as.length := by
        have := (List.getElem?_eq_some_iff.mp hq).1
        simp at this
        omega
      subst hj2
      rw [List.getElem?_append_right (Nat.le_refl _), Nat.sub_self] at hq
      cases hq
      rw [gT_A, gL_A, if_pos (by omega), if_pos (by omega), mR_sR, if_pos ⟨rfl, rfl⟩]
      exact ⟨rfl, rfl, by omega⟩
  · intro q hq
    rw [mI_sR, mI_sZ, if_neg hne]
    exact h5 q hq
  · intro k hk
    rw [mI_sR, mI_sZ, if_neg hne]
    exact h5b k hk
  · intro q hq
    have hq1 : q.1 ≠ s := fun e => hs2 (e ▸ List.mem_map.mpr ⟨q, hq, rfl⟩)
    rw [mR_sR, mR_sZ, if_neg hne, if_neg (by simp [hq1])]
    exact h6 q hq
  · intro k hk hk2
    have hk1 : k ≠ s := fun e => hk (by rw [e]; simp)
    rw [mR_sR, mR_sZ, if_neg hne, if_neg (by simp [hk1])]
    exact h6b k (fun e => hk (by rw [List.map_append]; exact List.mem_append_left _ e)) hk2
  · intro k
    rw [mJ_sR, mJ_sZ, if_neg hne]
    exact h7 k
  · intro a k ha hne2
    rw [mI_sR, mJ_sR, mR_sR, mI_sZ, mJ_sZ, mR_sZ, if_neg (by omega), if_neg (by omega), if_neg (by simp [hne2]), if_neg (by omega)]
    exact h8 a k ha hne2
  · intro a k ha1 ha2
    rw [gN_A] at ha2
    rw [mI_sR, mJ_sR, mR_sR, mI_sZ, mJ_sZ, mR_sZ, if_neg (show ¬ (a = r ∧ k = s) by omega)]
    by_cases ha : a = gN G + 1
    · rw [if_pos ha, if_pos ha, if_pos ha]
      exact ⟨rfl, rfl, rfl⟩
    · rw [if_neg ha, if_neg ha, if_neg ha]
      exact h9 a k ha1 (by omega)
theorem Mk.int (h : Mk r G0 σ0 as ns rs G σ) (s : Nat) (v : Int32) (hs : s ∉ ns.map (·.1)) : Mk r G0 σ0 as (ns ++ [(s, v)]) rs G (sI σ r s v) := by
  obtain ⟨h0, h1, h2, h3, h4, h5, h5b, h6, h6b, h7, h8, h9⟩ := h
  refine ⟨h0, h1, h2, h3, h4, ?_, ?_, h6, h6b, h7, ?_, ?_⟩
  · intro q hq
    rw [mI_sI]
    rcases List.mem_append.mp hq with hq | hq
    · have hq1 : q.1 ≠ s := fun e => hs (e ▸ List.mem_map.mpr ⟨q, hq, rfl⟩)
      rw [if_neg (by simp [hq1])]
      exact h5 q hq
    · simp at hq
      subst hq
      simp
  · intro k hk
    have hk1 : k ≠ s := fun e => hk (by rw [e]; simp)
    rw [mI_sI, if_neg (by simp [hk1])]
    exact h5b k (fun e => hk (by rw [List.map_append]; exact List.mem_append_left _ e))
  · intro a k ha hne
    rw [mI_sI, mJ_sI, mR_sI, if_neg (by simp [hne])]
    exact h8 a k ha hne
  · intro a k ha1 ha2
    rw [mI_sI, mJ_sI, mR_sI, if_neg (by omega)]
    exact h9 a k ha1 ha2
theorem Mk.ref (h : Mk r G0 σ0 as ns rs G σ) (s v : Nat) (hs : s ∉ as.map (·.1)) (hs2 : s ∉ rs.map (·.1)) : Mk r G0 σ0 as ns (rs ++ [(s, v)]) G (sR σ r s v) := by
  obtain ⟨h0, h1, h2, h3, h4, h5, h5b, h6, h6b, h7, h8, h9⟩ := h
  refine ⟨h0, h1, h2, h3, ?_, h5, h5b, ?_, ?_, h7, ?_, ?_⟩
  · intro j q hq
    have hq1 : q.1 ≠ s := fun e => hs (e ▸ List.mem_map.mpr ⟨q, List.mem_of_getElem? hq, rfl⟩)
    rw [mR_sR, if_neg (by simp [hq1])]
    exact h4 j q hq
  · intro q hq
    rw [mR_sR]
    rcases List.mem_append.mp hq with hq | hq
    · have hq1 : q.1 ≠ s := fun e => hs2 (e ▸ List.mem_map.mpr ⟨q, hq, rfl⟩)
      rw [if_neg (by simp [hq1])]
      exact h6 q hq
    · simp at hq
      subst hq
      simp
  · intro k hk hk2
    have hk1 : k ≠ s := fun e => hk2 (by rw [e]; simp)
    rw [mR_sR, if_neg (by simp [hk1])]
    exact h6b k hk (fun e => hk2 (by rw [List.map_append]; exact List.mem_append_left _ e))
  · intro a k ha hne
    rw [mI_sR, mJ_sR, mR_sR, if_neg (by simp [hne])]
    exact h8 a k ha hne
  · intro a k ha1 ha2
    rw [mI_sR, mJ_sR, mR_sR, if_neg (by omega)]
    exact h9 a k ha1 ha2
/-- of the object's own kind -/
theorem Mk.kind (h : Mk r G0 σ0 as ns rs G σ) {t : Nat} (ht : gT G0 r = t) : gT G r = t := by rw [(h.2.2.2.1 r h.1.2).1]; exact ht
/-- a new array and its field: what the meaning asks -/
theorem mk_step {t mc ms c n s : Nat} {REST : Lay → Mem → Mem → Prop} (h : Mk r G0 σ0 as ns rs G σ) (ht : gT G0 r = t) (hm : as.length + 1 ≤ mc) (hz : (as.map (fun q => q.2.2)).sum + n ≤ ms) (hs : s ∉ as.map (·.1)) (hs2 : s ∉ rs.map (·.1)) (k : ∀ (G1 : Lay) (s1 s2 : Mem), Mk r G0 σ0 (as ++ [(s, c, n)]) ns rs G1 s2 → REST G1 s1 s2) : gN G + 1 ≤ gN G0 + mc ∧ gZ G + n ≤ gZ G0 + ms ∧ ∀ G1 : Lay, G1 = gA G c n n → ∀ s1 : Mem, s1 = sZ σ (gN G + 1) → gT G1 r = t ∧ ∀ s2 : Mem, s2 = sR s1 r s (gN G + 1) → REST G1 s1 s2 := by
  have h1 := h.2.1
  have h2 := h.2.2.1
  refine ⟨by omega, by omega, fun G1 e1 s1 e2 => ⟨?_, fun s2 e3 => ?_⟩⟩
  · rw [e1, gT_A, if_neg (by have := h.r_lt; omega)]
    exact h.kind ht
  · subst e1 e2 e3
    exact k _ _ _ (h.arr s c n hs hs2)
end MK
