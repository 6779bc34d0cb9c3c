section ORDER3
variable {G : Lay} {κ ρ κ1 ρ1 : Mem}
/-- which things inOrder takes -/
def selO (ρ : Mem) (u : Nat) (l2 l3 l4 : Int32) (k : Nat) : Bool := decide ((¬ l2 = 0 ∧ mI ρ 1319 (60 * u + k) = 2) ∨ (¬ l3 = 0 ∧ mI ρ 1319 (60 * u + k) = 1) ∨ (¬ l4 = 0 ∧ mI ρ 1319 (60 * u + k) = 3))
theorem m_inOrder (hM : LyM G) (hm : StM ρ) {u t : Nat} {l2 l3 l4 : Int32} {rk : Nat → Nat} (hu : u < 4) (ht : t ≤ 60) (et : mI ρ 1317 u = nI t) (hr : ∀ a b, a < t → b < t → selO ρ u l2 l3 l4 a = true → selO ρ u l2 l3 l4 b = true → (ahd ρ (60 * u + a) (60 * u + b) ↔ rk a < rk b)) (hj : ∀ a b, a < t → b < t → selO ρ u l2 l3 l4 a = true → selO ρ u l2 l3 l4 b = true → rk a = rk b → a = b) :
    ∃ g : Nat → Int32, (∀ i, i < (ordN rk (selO ρ u l2 l3 l4) t).length → g i = nI (60 * u + (ordN rk (selO ρ u l2 l3 l4) t).getD i 0)) ∧ ∀ κ1 (Q : Mem → Prop), Q (mg κ1 (sA (sI ρ 1282 75 (nI (ordN rk (selO ρ u l2 l3 l4) t).length)) 1334 g)) → X_X12_inOrder G Q 1282 (nI u) l2 l3 l4 (mg κ1 ρ) := by
  obtain ⟨⟨b1, g⟩, ⟨hb, hg⟩, run⟩ := Lw.run (ι := Mem × (Mem → Prop)) (fun z => X_X12_inOrder_8_s G z.2 1282 (nI u) l2 l3 l4) (fun (b : Nat × (Nat → Int32)) z => (nI b.1, mg z.1 (sA (sI ρ 1282 75 (nI (ordN rk (selO ρ u l2 l3 l4) b.1).length)) 1334 b.2))) t (fun i b => b.1 = i ∧ ∀ j, j < (ordN rk (selO ρ u l2 l3 l4) i).length → b.2 j = nI (60 * u + (ordN rk (selO ρ u l2 l3 l4) i).getD j 0)) (by
    rintro i ⟨b1, g⟩ hi ⟨hb, hg⟩
    have hb : b1 = i := hb
    subst hb
    have hj' : ∀ a b, a < b1 → b < b1 → selO ρ u l2 l3 l4 a = true → selO ρ u l2 l3 l4 b = true → rk a = rk b → a = b := fun a b ha hb => hj a b (by omega) (by omega)
    have hS := ordN_srt (rk := rk) hj'
    have hlen := ordN_len (rk := rk) hj'
    have hmem : ∀ y, y ∈ ordN rk (selO ρ u l2 l3 l4) b1 → y < b1 ∧ selO ρ u l2 l3 l4 y = true := fun y hy => ordN_mem.mp hy
    have hgd : ∀ j, j < (ordN rk (selO ρ u l2 l3 l4) b1).length → (ordN rk (selO ρ u l2 l3 l4) b1).getD j 0 ∈ ordN rk (selO ρ u l2 l3 l4) b1 := fun j h => by
      rw [List.getD_eq_getElem?_getD, List.getElem?_eq_getElem h]; exact List.getElem_mem _
    by_cases hs : selO ρ u l2 l3 l4 b1 = true
    · obtain ⟨q, q1, q2, q3, q4⟩ := hS.place b1
      have eo : ordN rk (selO ρ u l2 l3 l4) (b1 + 1) = insR rk b1 (ordN rk (selO ρ u l2 l3 l4) b1) := if_pos hs
      have el : (ordN rk (selO ρ u l2 l3 l4) (b1 + 1)).length = (ordN rk (selO ρ u l2 l3 l4) b1).length + 1 := by rw [eo]; exact len_ins hS
      refine ⟨(b1 + 1, insAt g (ordN rk (selO ρ u l2 l3 l4) b1).length q (nI (60 * u + b1))), ⟨rfl, fun j hj2 => ?_⟩, fun z K hK => ?_⟩
      · rw [el] at hj2
        rw [eo, q4 j (by omega)]
        show (if j < q then g j else if j = q then _ else if j ≤ _ then g (j - 1) else g j) = _
        by_cases c1 : j < q
        · rw [if_pos c1, if_pos c1]; exact hg j (by omega)
        · rw [if_neg c1, if_neg c1]
          by_cases c2 : j = q
          · rw [if_pos c2, if_pos c2]
          · rw [if_neg c2, if_neg c2, if_pos (by omega)]; exact hg (j - 1) (by omega)
      · have r95 : X_X12_inOrder_95 G z.2 K 1282 (nI u) l2 l3 l4 (nI b1) (nI (60 * u + b1)) (nI (ordN rk (selO ρ u l2 l3 l4) b1).length) (mg z.1 (sA (sI ρ 1282 75 (nI (ordN rk (selO ρ u l2 l3 l4) b1).length)) 1334 g)) := by
          have ha : ∀ a b, ahd (sA (sI ρ 1282 75 (nI (ordN rk (selO ρ u l2 l3 l4) b1).length)) 1334 g) a b ↔ ahd ρ a b := fun a b => by
            unfold ahd
            simp (disch := omega) only [sA_cl, I_cl]
          refine m_insert (q := q) (f := fun i => (ordN rk (selO ρ u l2 l3 l4) b1).getD i 0) hM ((hm.wI _ _ _).wA _ _) hu (by omega) (by omega) (fun j h => ?_) ?_ q1 (fun j h1 h2 => ?_) ?_ ?_
          · have := hmem _ (hgd j h)
            rw [sA_is]
            exact ⟨hg j h, by omega⟩
          · rw [sA_cl (by decide), I_is]
          · have hm1 := hmem _ (hgd j h2)
            exact (ha _ _).mpr ((hr _ _ (by omega) (by omega) hs hm1.2).mpr (q2 j h1 h2))
          · by_cases q0 : q = 0
            · exact Or.inl q0
            · have hm1 := hmem _ (hgd (q - 1) (by omega))
              exact Or.inr (fun z2 => q3.resolve_left q0 ((hr _ _ (by omega) (by omega) hs hm1.2).mp ((ha _ _).mp z2)))
          · have hK : K (nI (b1 + 1), mg z.1 (sA (sI ρ 1282 75 (nI (ordN rk (selO ρ u l2 l3 l4) (b1 + 1)).length)) 1334 (insAt g (ordN rk (selO ρ u l2 l3 l4) b1).length q (nI (60 * u + b1))))) := hK
            rw [el] at hK
            rw [sA_A, sA_sw (by decide), sI_sI, nI_1, show mI (sA (sI ρ 1282 75 (nI (ordN rk (selO ρ u l2 l3 l4) b1).length)) 1334 g) 1334 = g from funext fun _ => sA_is]
            exact hK
        have hs' := of_decide_eq_true hs
        show X_X12_inOrder_8_s G z.2 1282 (nI u) l2 l3 l4 K (nI b1, _)
        simp (disch := omega) only [X_X12_inOrder_8_s, X_X12_inOrder_43, X_X12_inOrder_58, X_X12_inOrder_74, X_X12_inOrder_78, X_X12_inOrder_79, show (60 : Int32) = nI 60 from rfl, pk_mul, nI_add, mI_m, mR_m, mJ_m, sI_m, sJ_m, hM.1, hM.2, hm.1, hm.2, lT, lF, tT, tF, eF, pF, zT, m1F, vT, cI, true_and, and_true, true_implies, false_implies, not_false_eq_true, not_true_eq_false, forall_eq, implies_true, sA_R, mR_sI, sA_cl, I_cl, I_is, et]
        grind
    · refine ⟨(b1 + 1, g), ⟨rfl, fun j hj2 => ?_⟩, fun z K hK => ?_⟩
      · have eo : ordN rk (selO ρ u l2 l3 l4) (b1 + 1) = ordN rk (selO ρ u l2 l3 l4) b1 := if_neg hs
        rw [eo] at hj2 ⊢
        exact hg j hj2
      · have eo : ordN rk (selO ρ u l2 l3 l4) (b1 + 1) = ordN rk (selO ρ u l2 l3 l4) b1 := if_neg hs
        have hK : K (nI (b1 + 1), mg z.1 (sA (sI ρ 1282 75 (nI (ordN rk (selO ρ u l2 l3 l4) b1).length)) 1334 g)) := by rw [← eo]; exact hK
        have hs' := fun c => hs (decide_eq_true c)
        show X_X12_inOrder_8_s G z.2 1282 (nI u) l2 l3 l4 K (nI b1, _)
        simp (disch := omega) only [X_X12_inOrder_8_s, X_X12_inOrder_43, X_X12_inOrder_58, X_X12_inOrder_74, X_X12_inOrder_78, X_X12_inOrder_79, X_X12_inOrder_213, show (60 : Int32) = nI 60 from rfl, pk_mul, nI_add, nI_1, mI_m, mR_m, mJ_m, sI_m, sJ_m, hM.1, hM.2, hm.1, hm.2, lT, lF, tT, tF, eF, pF, zT, m1F, vT, cI, true_and, and_true, true_implies, false_implies, not_false_eq_true, not_true_eq_false, forall_eq, implies_true, sA_R, mR_sI, sA_cl, I_cl, I_is, et]
        grind) 0 (Nat.zero_le _) (0, mI ρ 1334) ⟨rfl, fun j h => by cases h⟩
  have hb : b1 = t := hb
  subst hb
  refine ⟨g, hg, fun κ1 Q hQ => ?_⟩
  have r := run (κ1, Q) (fun K => by
    show X_X12_inOrder_8_s G Q 1282 (nI u) l2 l3 l4 K (nI b1, _)
    simp (disch := omega) only [X_X12_inOrder_8_s, mI_m, mR_m, mJ_m, sI_m, sJ_m, hM.1, hM.2, hm.1, hm.2, lT, lF, tT, tF, eF, pF, zT, m1F, vT, cI, true_and, and_true, true_implies, false_implies, not_false_eq_true, not_true_eq_false, forall_eq, implies_true, sA_R, mR_sI, sA_cl, I_cl, et]
    exact hQ)
  have e0 : sA (sI ρ 1282 75 (nI 0)) 1334 (mI ρ 1334) = sI ρ 1282 75 (nI 0) := by
    conv => lhs; rw [show mI ρ 1334 = mI (sI ρ 1282 75 (nI 0)) 1334 from funext fun j => (I_cl (by decide)).symm]
    exact sA_id
  have r : Lw (X_X12_inOrder_8_s G Q 1282 (nI u) l2 l3 l4) (nI 0, mg κ1 (sA (sI ρ 1282 75 (nI 0)) 1334 (mI ρ 1334))) := r
  rw [e0] at r
  simp (disch := omega) only [X_X12_inOrder, X_X12_inOrder_0, X_X12_inOrder_8, hM.1, true_and, sI_m, forall_eq]
  exact r
end ORDER3
