/-- the one ahead of the other, as the reference tells it -/
def ahd (ρ : Mem) (a b : Nat) : Prop := mI ρ 1322 a < mI ρ 1322 b ∨ mI ρ 1322 b = mI ρ 1322 a ∧ ¬ mI ρ 1321 b ≤ mI ρ 1321 a
section ORDER2
variable {G : Lay} {κ ρ κ1 ρ1 : Mem}
theorem m_insert (hM : LyM G) (hm : StM ρ) {Q : Mem → Prop} {K8 : Int32 × Mem → Prop} {u x t q : Nat} {f : Nat → Nat} {l1 l2 l3 l4 l5 : Int32} (hu : u < 4) (hx : x < 60) (ht : t < 60) (hf : ∀ i, i < t → mI ρ 1334 i = nI (60 * u + f i) ∧ f i < 60) (e75 : mI ρ 1282 75 = nI t) (hq : q ≤ t) (h1 : ∀ i, q ≤ i → i < t → ahd ρ (60 * u + x) (60 * u + f i)) (h2 : q = 0 ∨ ¬ ahd ρ (60 * u + x) (60 * u + f (q - 1))) (k : K8 (l5 + 1, mg κ1 (sI (sA ρ 1334 (insAt (mI ρ 1334) t q (nI (60 * u + x)))) 1282 75 (nI (t + 1))))) : X_X12_inOrder_95 G Q K8 1282 l1 l2 l3 l4 l5 (nI (60 * u + x)) (nI t) (mg κ1 ρ) := by
  unfold X_X12_inOrder_95
  refine Lw.nat (t - q) (fun i y => y = (nI (t - i), mg κ1 (sA ρ 1334 (shf (mI ρ 1334) t (t - i))))) ?_ 0 (by omega) _ (by rw [Nat.sub_zero, shf_t, sA_id])
  rintro K' i y hi rfl hk'
  by_cases h : i < t - q
  · have e := h1 (t - i - 1) (by omega) (by omega)
    obtain ⟨f1, f2⟩ := hf (t - i - 1) (by omega)
    have r172 : X_X12_inOrder_172 G Q K8 K' 1282 l1 l2 l3 l4 l5 (nI (60 * u + x)) (nI (t - i)) (mg κ1 (sA ρ 1334 (shf (mI ρ 1334) t (t - i)))) := by
      simp (disch := omega) only [X_X12_inOrder_172, mI_m, mR_m, mJ_m, sI_m, sJ_m, hM.1, hM.2, hm.1, hm.2, lT, lF, tT, tF, eF, pF, zT, m1F, vT, cI, true_and, and_true, true_implies, false_implies, not_false_eq_true, not_true_eq_false, forall_eq, implies_true, s1I, d1I, sA_R, sA_is, shf_lo]
      refine hk' _ h ?_
      rw [sA_w]
      have := shf_st (f := mI ρ 1334) (p := t - i) (t := t) (by omega) (by omega)
      rw [shf_lo (by omega)] at this
      rw [this, show t - (i + 1) = t - i - 1 by omega]
    simp (disch := omega) only [X_X12_inOrder_95_s, mI_m, mR_m, mJ_m, sI_m, sJ_m, hM.1, hM.2, hm.1, hm.2, lT, lF, tT, tF, eF, pF, zT, m1F, vT, cI, true_and, and_true, true_implies, false_implies, not_false_eq_true, not_true_eq_false, forall_eq, implies_true, s1I, le0F, sA_R, sA_is, sA_cl, shf_lo, f1]
    rcases e with e | ⟨e, e2⟩
    · exact brT e r172
    · exact brF (by rw [e]; exact Int32.lt_irrefl) (brT e (brF e2 r172))
  · obtain rfl : i = t - q := by omega
    have ep : t - (t - q) = q := by omega
    rw [ep]
    have fin : X_X12_inOrder_194 G Q K8 1282 l1 l2 l3 l4 l5 (nI (60 * u + x)) (nI q) (mg κ1 (sA ρ 1334 (shf (mI ρ 1334) t q))) := by
      simp (disch := omega) only [X_X12_inOrder_194, X_X12_inOrder_213, mI_m, mR_m, mJ_m, sI_m, sJ_m, hM.1, hM.2, hm.1, hm.2, lT, lF, tT, tF, eF, pF, zT, m1F, vT, cI, true_and, and_true, true_implies, false_implies, not_false_eq_true, not_true_eq_false, forall_eq, implies_true, sA_R, sA_w, shf_in, sA_cl, e75, nI_1]
      exact k
    by_cases q0 : q = 0
    · subst q0
      exact brT (by decide) fin
    · have e := h2.resolve_left q0
      obtain ⟨f1, f2⟩ := hf (q - 1) (by omega)
      simp (disch := omega) only [X_X12_inOrder_95_s, mI_m, mR_m, mJ_m, sI_m, sJ_m, hM.1, hM.2, hm.1, hm.2, lT, lF, tT, tF, eF, pF, zT, m1F, vT, cI, true_and, and_true, true_implies, false_implies, not_false_eq_true, not_true_eq_false, forall_eq, implies_true, s1I, le0F, sA_R, sA_is, sA_cl, shf_lo, f1]
      exact brF (fun z => e (Or.inl z)) ⟨fun z => brT (Classical.byContradiction fun z2 => e (Or.inr ⟨z, z2⟩)) fin, fun _ => fin⟩
end ORDER2
