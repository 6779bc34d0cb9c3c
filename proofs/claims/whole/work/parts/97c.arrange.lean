section ARR
variable {G : Lay} {κ ρ κ1 ρ1 : Mem}
theorem Lw.stp {α : Type} {F : (α → Prop) → α → Prop} {a b : α} (h : ∀ K : α → Prop, K b → F K a) (hb : Lw F b) : Lw F a := by
  obtain ⟨n, hn⟩ := hb
  exact ⟨n + 1, h _ hn⟩
theorem Lw.fin {α : Type} {F : (α → Prop) → α → Prop} {a : α} (h : ∀ K : α → Prop, F K a) : Lw F a := ⟨1, h _⟩
theorem StC.wB (h : StC κ) (f : Nat → Nat) : StC (sB κ 1270 f) := by
  obtain ⟨h1, h2, h3, h4, h5⟩ := h
  refine ⟨?_, fun u hu => ?_, fun u q hu hq => ?_, ⟨?_, fun j hj => ?_, fun j hj => ?_⟩, ⟨?_, fun j hj => ?_, fun j hj => ?_⟩⟩
  · simp (disch := omega) only [sB_cl]; exact h1
  · simp (disch := omega) only [sB_cl]; exact h2 u hu
  · simp (disch := omega) only [sB_cl]; exact h3 u q hu hq
  · simp (disch := omega) only [sB_cl]; exact h4.1
  · simp (disch := omega) only [sB_cl]; exact h4.2.1 j hj
  · simp (disch := omega) only [sB_cl]; exact h4.2.2 j hj
  · simp (disch := omega) only [sB_cl]; exact h5.1
  · simp (disch := omega) only [sB_cl]; exact h5.2.1 j hj
  · simp (disch := omega) only [sB_cl]; exact h5.2.2 j hj
theorem Eqv.sB {S : Nat → Nat → Prop} {σ σ' : Mem} {a : Nat} {f : Nat → Nat} (h : Eqv S σ σ') (hs : ∀ k, ¬ S a k) : Eqv S σ (sB σ' a f) := fun b j hb => ⟨(h b j hb).1, (h b j hb).2.1, by
  rw [sB_cl (fun e => hs j (by rw [← e]; exact hb))]; exact (h b j hb).2.2⟩
/-- what arrange leaves as it is -/
def arC (u a k : Nat) : Prop := ¬ (a = 1269 ∧ k = 3 ∨ a = 1270 ∨ ∃ j, j < 60 ∧ a = 537 + 184 * u + 3 * j ∧ (k = 9 ∨ k = 10))
def selA (κ : Mem) (u k : Nat) : Bool := decide (mI κ (537 + 184 * u + 3 * k) 1 = 1 ∨ mI κ (537 + 184 * u + 3 * k) 1 = 2 ∨ mI κ (537 + 184 * u + 3 * k) 1 = 3)
theorem arC.th {u k s : Nat} (hs : s ≠ 9 ∧ s ≠ 10) : arC u (537 + 184 * u + 3 * k) s ∨ ¬ (u < 4 ∧ k < 60) := by
  by_cases h : u < 4 ∧ k < 60
  · left
    rintro (h1 | h1 | ⟨j, h1, h2, h3⟩) <;> omega
  · exact Or.inr h
theorem c_arrange (hL : LyC G) (hC : StC κ) {u t : Nat} {rk : Nat → Nat} (hu : u < 4) (ht : t ≤ 60) (et : mI κ (533 + 184 * u) 5 = nI t) (hr : ∀ a b, a < t → b < t → selA κ u a = true → selA κ u b = true → (ahC κ (537 + 184 * u + 3 * a) (537 + 184 * u + 3 * b) ↔ rk a < rk b)) (hj : ∀ a b, a < t → b < t → selA κ u a = true → selA κ u b = true → rk a = rk b → a = b) :
    ∃ κ', RunC0 (fun Q σ => X_X10_arrange G Q 1269 (533 + 184 * u) σ) κ κ' ∧ StC κ' ∧ Eqv (arC u) κ κ' ∧ mI κ' 1269 3 = nI (ordN rk (selA κ u) t).length ∧ (∀ i, i < (ordN rk (selA κ u) t).length → mR κ' 1270 i = 537 + 184 * u + 3 * (ordN rk (selA κ u) t).getD i 0) ∧ ∀ k, k < t → mI κ' (537 + 184 * u + 3 * k) 9 = 0 ∧ mI κ' (537 + 184 * u + 3 * k) 10 = 0 := by
  obtain ⟨⟨b1, κ'⟩, ⟨hb, hC', he', h3', ho', hz'⟩, run⟩ := Lw.run (ι := Mem × (Mem → Prop)) (fun z => X_X10_arrange_7_s G z.2 1269 (533 + 184 * u)) (fun (b : Nat × Mem) z => (nI b.1, mg b.2 z.1)) t (fun i b => b.1 = i ∧ StC b.2 ∧ Eqv (arC u) κ b.2 ∧ mI b.2 1269 3 = nI (ordN rk (selA κ u) i).length ∧ (∀ j, j < (ordN rk (selA κ u) i).length → mR b.2 1270 j = 537 + 184 * u + 3 * (ordN rk (selA κ u) i).getD j 0) ∧ ∀ k, k < i → mI b.2 (537 + 184 * u + 3 * k) 9 = 0 ∧ mI b.2 (537 + 184 * u + 3 * k) 10 = 0) (by
    rintro i ⟨b1, κb⟩ hi ⟨hb, hC, he, h3, ho, hz⟩
    have hb : b1 = i := hb
    subst hb
    have hC : StC κb := hC
    have he : Eqv (arC u) κ κb := he
    have h3 : mI κb 1269 3 = _ := h3
    have e5 : mI κb (533 + 184 * u) 5 = nI t := (he.I (by rintro (h1 | h1 | ⟨j, h1, h2, h3⟩) <;> omega)).trans et
    have est : ∀ k s, k < 60 → s ≠ 9 → s ≠ 10 → mI κb (537 + 184 * u + 3 * k) s = mI κ (537 + 184 * u + 3 * k) s := fun k s hk hs1 hs2 => he.I (by rintro (h1 | h1 | ⟨j, h1, h2, h3⟩) <;> omega)
    have hj' : ∀ a b, a < b1 → b < b1 → selA κ u a = true → selA κ u b = true → rk a = rk b → a = b := fun a b ha hb => hj a b (by omega) (by omega)
    have hS := ordN_srt (rk := rk) hj'
    have hlen := ordN_len (rk := rk) hj'
    have hmem : ∀ y, y ∈ ordN rk (selA κ u) b1 → y < b1 ∧ selA κ u y = true := fun y hy => ordN_mem.mp hy
    have hgd : ∀ j, j < (ordN rk (selA κ u) b1).length → (ordN rk (selA κ u) b1).getD j 0 ∈ ordN rk (selA κ u) b1 := fun j h => by
      rw [List.getD_eq_getElem?_getD, List.getElem?_eq_getElem h]; exact List.getElem_mem _
    have eqa : Eqv (arC u) κ (sI (sI κb (537 + 184 * u + 3 * b1) 9 0) (537 + 184 * u + 3 * b1) 10 0) := (he.sI (fun h => h (Or.inr (Or.inr ⟨b1, by omega, rfl, Or.inl rfl⟩))) _).sI (fun h => h (Or.inr (Or.inr ⟨b1, by omega, rfl, Or.inr rfl⟩))) _
    by_cases hs : selA κ u b1 = true
    · obtain ⟨q, q1, q2, q3, q4⟩ := hS.place b1
      have eo : ordN rk (selA κ u) (b1 + 1) = insR rk b1 (ordN rk (selA κ u) b1) := if_pos hs
      have el : (ordN rk (selA κ u) (b1 + 1)).length = (ordN rk (selA κ u) b1).length + 1 := by rw [eo]; exact len_ins hS
      refine ⟨(b1 + 1, sI (sB (sI (sI κb (537 + 184 * u + 3 * b1) 9 0) (537 + 184 * u + 3 * b1) 10 0) 1270 (insAtN (mR κb 1270) (ordN rk (selA κ u) b1).length q (537 + 184 * u + 3 * b1))) 1269 3 (nI ((ordN rk (selA κ u) b1).length + 1))), ⟨rfl, (((hC.wI _ _ _).wI _ _ _).wB _).wI _ _ _, (eqa.sB (fun k h => h (Or.inr (Or.inl rfl)))).sI (fun h => h (Or.inl ⟨rfl, rfl⟩)) _, ?_, fun j hj2 => ?_, fun k hk => ?_⟩, fun z K hK => ?_⟩
      · show mI (sI _ 1269 3 _) 1269 3 = _
        rw [I_is, el]
      · rw [el] at hj2
        rw [eo, q4 j (by omega)]
        show mR (sB κb 1270 (insAtN (mR κb 1270) (ordN rk (selA κ u) b1).length q (537 + 184 * u + 3 * b1))) 1270 j = _
        rw [sB_is]
        show (if j < q then mR κb 1270 j else if j = q then _ else if j ≤ _ then mR κb 1270 (j - 1) else mR κb 1270 j) = _
        by_cases c1 : j < q
        · rw [if_pos c1, if_pos c1]; exact ho j (by omega)
        · rw [if_neg c1, if_neg c1]
          by_cases c2 : j = q
          · rw [if_pos c2, if_pos c2]
          · rw [if_neg c2, if_neg c2, if_pos (by omega)]; exact ho (j - 1) (by omega)
      · show mI (sI (sB (sI (sI κb _ 9 0) _ 10 0) 1270 _) 1269 3 _) _ 9 = 0 ∧ mI (sI (sB (sI (sI κb _ 9 0) _ 10 0) 1270 _) 1269 3 _) _ 10 = 0
        rw [I_cl (by omega), I_cl (by omega), sB_I, sB_I]
        by_cases e : k = b1
        · subst e
          rw [I_is, I_sl (by decide), I_is]
          exact ⟨rfl, rfl⟩
        · rw [I_cl (by omega), I_cl (by omega), I_cl (by omega), I_cl (by omega)]
          exact hz k (by omega)
      · have r47 : X_X10_arrange_47 G z.2 K 1269 (533 + 184 * u) (nI b1) (537 + 184 * u + 3 * b1) (mg (sI (sI κb (537 + 184 * u + 3 * b1) 9 0) (537 + 184 * u + 3 * b1) 10 0) z.1) := by
          have ha : ∀ a b, a < 60 → b < 60 → (ahC (sI (sI κb (537 + 184 * u + 3 * b1) 9 0) (537 + 184 * u + 3 * b1) 10 0) (537 + 184 * u + 3 * a) (537 + 184 * u + 3 * b) ↔ ahC κ (537 + 184 * u + 3 * a) (537 + 184 * u + 3 * b)) := fun a b h1 h2 => by
            unfold ahC
            rw [I_sl (by decide), I_sl (by decide), I_sl (by decide), I_sl (by decide), I_sl (by decide), I_sl (by decide), I_sl (by decide), I_sl (by decide), est a 4 h1 (by decide) (by decide), est b 4 h2 (by decide) (by decide), est a 3 h1 (by decide) (by decide), est b 3 h2 (by decide) (by decide)]
          have h3' : mI (sI (sI κb (537 + 184 * u + 3 * b1) 9 0) (537 + 184 * u + 3 * b1) 10 0) 1269 3 = nI (ordN rk (selA κ u) b1).length := by rw [I_cl (by omega), I_cl (by omega)]; exact h3
          have hC2 : StC (sI (sI κb (537 + 184 * u + 3 * b1) 9 0) (537 + 184 * u + 3 * b1) 10 0) := (hC.wI _ _ _).wI _ _ _
          unfold X_X10_arrange_47
          refine ⟨hL.1.2.2.2.2.2.2.2.2.2.2.2.2.2.2.2.2.2.2.2.2.2.2.2.2.2.2.2.2.2.2.2.2.2.2.1, ?_⟩
          rw [mI_c (by decide), h3']
          refine c_insert (q := q) (f := fun i => (ordN rk (selA κ u) b1).getD i 0) hL hC2 hu (by omega) (by omega) (fun j h => ?_) h3' q1 (fun j h1 h2 => ?_) ?_ ?_
          · have := hmem _ (hgd j h)
            exact ⟨ho j h, by omega⟩
          · have hm1 := hmem _ (hgd j h2)
            exact (ha _ _ (by omega) (by omega)).mpr ((hr _ _ (by omega) (by omega) hs hm1.2).mpr (q2 j h1 h2))
          · by_cases q0 : q = 0
            · exact Or.inl q0
            · have hm1 := hmem _ (hgd (q - 1) (by omega))
              exact Or.inr (fun z2 => q3.resolve_left q0 ((hr _ _ (by omega) (by omega) hs hm1.2).mp ((ha _ _ (by omega) (by omega)).mp z2)))
          · rw [nI_1]
            exact hK
        have hs' := of_decide_eq_true hs
        show X_X10_arrange_7_s G z.2 1269 (533 + 184 * u) K (nI b1, mg κb z.1)
        simp (disch := omega) only [X_X10_arrange_7_s, mI_c, mR_c, mJ_c, sI_c, sJ_c, sR_c, hL.1, hL.2.1, hL.2.2, hC.1, hC.2.1, hC.2.2.1, lT, lF, tT, tF, eF, pF, zT, m1F, vT, cI, true_and, and_true, true_implies, false_implies, not_false_eq_true, not_true_eq_false, forall_eq, implies_true, bzT0, e5]
        by_cases l : mI κb (537 + 184 * u + 3 * b1) 1 = 1 ∨ mI κb (537 + 184 * u + 3 * b1) 1 = 2
        · refine c_isLive1 hL hu (by omega) ?_ (br1 r47)
          rw [I_sl (by decide), I_sl (by decide)]; exact l
        · refine c_isLive0 hL hu (by omega) ?_ (br0 ?_)
          · rw [I_sl (by decide), I_sl (by decide)]; exact l
          · rw [est b1 1 (by omega) (by decide) (by decide)] at l
            have l3 : mI κ (537 + 184 * u + 3 * b1) 1 = 3 := by
              rcases hs' with h | h | h
              · exact absurd (Or.inl h) l
              · exact absurd (Or.inr h) l
              · exact h
            refine brT ?_ r47
            rw [mI_c (by omega), I_sl (by decide), I_sl (by decide), est b1 1 (by omega) (by decide) (by decide)]; exact l3
    · have eo : ordN rk (selA κ u) (b1 + 1) = ordN rk (selA κ u) b1 := if_neg hs
      have hs' := fun c => hs (decide_eq_true c)
      refine ⟨(b1 + 1, sI (sI κb (537 + 184 * u + 3 * b1) 9 0) (537 + 184 * u + 3 * b1) 10 0), ⟨rfl, (hC.wI _ _ _).wI _ _ _, eqa, ?_, fun j hj2 => ?_, fun k hk => ?_⟩, fun z K hK => ?_⟩
      · show mI (sI (sI κb _ 9 0) _ 10 0) 1269 3 = _
        rw [eo, I_cl (by omega), I_cl (by omega)]; exact h3
      · rw [eo] at hj2 ⊢
        exact ho j hj2
      · show mI (sI (sI κb _ 9 0) _ 10 0) _ 9 = 0 ∧ mI (sI (sI κb _ 9 0) _ 10 0) _ 10 = 0
        by_cases e : k = b1
        · subst e
          rw [I_is, I_sl (by decide), I_is]
          exact ⟨rfl, rfl⟩
        · rw [I_cl (by omega), I_cl (by omega), I_cl (by omega), I_cl (by omega)]
          exact hz k (by omega)
      · show X_X10_arrange_7_s G z.2 1269 (533 + 184 * u) K (nI b1, mg κb z.1)
        simp (disch := omega) only [X_X10_arrange_7_s, mI_c, mR_c, mJ_c, sI_c, sJ_c, sR_c, hL.1, hL.2.1, hL.2.2, hC.1, hC.2.1, hC.2.2.1, lT, lF, tT, tF, eF, pF, zT, m1F, vT, cI, true_and, and_true, true_implies, false_implies, not_false_eq_true, not_true_eq_false, forall_eq, implies_true, bzT0, e5]
        have l : ¬ (mI κb (537 + 184 * u + 3 * b1) 1 = 1 ∨ mI κb (537 + 184 * u + 3 * b1) 1 = 2) := by
          rw [est b1 1 (by omega) (by decide) (by decide)]
          rintro (h | h)
          · exact hs' (Or.inl h)
          · exact hs' (Or.inr (Or.inl h))
        refine c_isLive0 hL hu (by omega) ?_ (br0 (brF ?_ ?_))
        · rw [I_sl (by decide), I_sl (by decide)]; exact l
        · rw [mI_c (by omega), I_sl (by decide), I_sl (by decide), est b1 1 (by omega) (by decide) (by decide)]
          exact fun h => hs' (Or.inr (Or.inr h))
        · unfold X_X10_arrange_114
          rw [nI_1]
          exact hK) 0 (Nat.zero_le _) (0, sI κ 1269 3 0) ⟨rfl, hC.wI _ _ _, Eqv.wI (fun h => h (Or.inl ⟨rfl, rfl⟩)) _, I_is _ _ _ _, fun j h => (by cases h), fun k h => (by omega)⟩
  have hb : b1 = t := hb
  subst hb
  refine ⟨κ', fun ρ1 Q hQ => ?_, hC', he', h3', ho', hz'⟩
  have e5 : mI κ' (533 + 184 * u) 5 = nI b1 := (Eqv.I he' (by rintro (h1 | h1 | ⟨j, h1, h2, h3⟩) <;> omega)).trans et
  have r := run (ρ1, Q) (fun K => by
    show X_X10_arrange_7_s G Q 1269 (533 + 184 * u) K (nI b1, mg κ' ρ1)
    simp (disch := omega) only [X_X10_arrange_7_s, mI_c, hL.2.1, lT, lF, tT, tF, eF, pF, zT, m1F, vT, cI, true_and, and_true, true_implies, false_implies, not_false_eq_true, not_true_eq_false, forall_eq, implies_true, e5]
    exact hQ)
  show X_X10_arrange G Q 1269 (533 + 184 * u) (mg κ ρ1)
  simp (disch := omega) only [X_X10_arrange, X_X10_arrange_0, X_X10_arrange_7, hL.1, true_and, sI_c, forall_eq]
  exact r
end ARR
