/-- the one ahead of the other, as the class tells it -/
def ahC (κ : Mem) (a b : Nat) : Prop := (mI κ a 4 = mI κ b 4 ∧ ¬ mI κ b 3 ≤ mI κ a 3) ∨ (¬ mI κ a 4 = mI κ b 4 ∧ ¬ mI κ b 4 ≤ mI κ a 4)
section ORDER4
variable {G : Lay} {κ ρ κ1 ρ1 : Mem}
theorem c_isAhead {Q : Int32 → Mem → Prop} {a b : Nat} (ha : a < 1282) (hb : b < 1282) (ga : gT G a = 8) (gb : gT G b = 8) (k1 : ahC κ a b → Q 1 (mg κ ρ1)) (k0 : ¬ ahC κ a b → Q 0 (mg κ ρ1)) : X_X7_isAhead G Q a b (mg κ ρ1) := by
  simp (disch := omega) only [X_X7_isAhead_46, X_X7_isAhead_0, X_X7_isAhead, mI_c, ga, gb, true_and, bzT1, bzT0]
  refine ⟨fun e => ⟨fun h => k0 (fun z => ?_), fun h => k1 (Or.inl ⟨e, h⟩)⟩, fun e => ⟨fun h => k0 (fun z => ?_), fun h => k1 (Or.inr ⟨e, h⟩)⟩⟩
  · rcases z with z | z
    · exact z.2 h
    · exact z.1 e
  · rcases z with z | z
    · exact e z.1
    · exact z.2 h
theorem c_insert (hL : LyC G) (hC : StC κ) {Q : Mem → Prop} {K7 : Int32 × Mem → Prop} {u x t q l1 : Nat} {f : Nat → Nat} {l2 : Int32} (hu : u < 4) (hx : x < 60) (ht : t < 60) (hf : ∀ i, i < t → mR κ 1270 i = 537 + 184 * u + 3 * f i ∧ f i < 60) (e3 : mI κ 1269 3 = nI t) (hq : q ≤ t) (h1 : ∀ i, q ≤ i → i < t → ahC κ (537 + 184 * u + 3 * x) (537 + 184 * u + 3 * f i)) (h2 : q = 0 ∨ ¬ ahC κ (537 + 184 * u + 3 * x) (537 + 184 * u + 3 * f (q - 1))) (k : K7 (l2 + 1, mg (sI (sB κ 1270 (insAtN (mR κ 1270) t q (537 + 184 * u + 3 * x))) 1269 3 (nI (t + 1))) ρ1)) : X_X10_arrange_53 G Q K7 1269 l1 l2 (537 + 184 * u + 3 * x) (nI t) (mg κ ρ1) := by
  have gx := (hL.2.2 u x hu hx).1
  unfold X_X10_arrange_53
  refine Lw.nat (t - q) (fun i y => y = (nI (t - i), mg (sB κ 1270 (shfN (mR κ 1270) t (t - i))) ρ1)) ?_ 0 (by omega) _ (by rw [Nat.sub_zero, shfN_t, sB_id])
  rintro K' i y hi rfl hk'
  have ha : ∀ (g : Nat → Nat) a b, ahC (sB κ 1270 g) a b ↔ ahC κ a b := fun g a b => Iff.rfl
  by_cases h : i < t - q
  · have e := h1 (t - i - 1) (by omega) (by omega)
    obtain ⟨f1, f2⟩ := hf (t - i - 1) (by omega)
    have gf := (hL.2.2 u (f (t - i - 1)) hu f2).1
    simp (disch := omega) only [X_X10_arrange_53_s, mR_c, hL.1, hC.1, lT, lF, tT, tF, eF, pF, zT, m1F, vT, cI, true_and, and_true, true_implies, false_implies, not_false_eq_true, not_true_eq_false, forall_eq, implies_true, s1I, d1I, le0F, sB_is, sB_cl, shfN_lo, f1, gx]
    refine c_isAhead (by omega) (by omega) gx gf (fun _ => br1 ?_) (fun z => absurd ((ha _ _ _).mpr e) z)
    simp (disch := omega) only [mR_c, sR_c, hL.1, hC.1, lT, lF, tT, tF, eF, pF, zT, m1F, vT, cI, true_and, and_true, true_implies, false_implies, not_false_eq_true, not_true_eq_false, forall_eq, implies_true, s1I, d1I, sB_is, sB_cl, shfN_lo, f1, gf]
    refine hk' _ h ?_
    rw [sB_w]
    have := shfN_st (f := mR κ 1270) (p := t - i) (t := t) (by omega) (by omega)
    rw [shfN_lo (by omega), f1] at this
    rw [this, show t - (i + 1) = t - i - 1 by omega]
  · obtain rfl : i = t - q := by omega
    have ep : t - (t - q) = q := by omega
    rw [ep]
    have fin : X_X10_arrange_96 G Q K7 1269 l1 l2 (537 + 184 * u + 3 * x) (nI q) (mg (sB κ 1270 (shfN (mR κ 1270) t q)) ρ1) := by
      simp (disch := omega) only [X_X10_arrange_96, X_X10_arrange_114, mI_c, mR_c, sR_c, sI_c, hL.1, hC.1, lT, lF, tT, tF, eF, pF, zT, m1F, vT, cI, true_and, and_true, true_implies, false_implies, not_false_eq_true, not_true_eq_false, forall_eq, implies_true, sB_cl, sB_w, shfN_in, sB_I, e3, nI_1, gx]
      exact k
    by_cases q0 : q = 0
    · subst q0
      exact brT (by decide) fin
    · have e := h2.resolve_left q0
      obtain ⟨f1, f2⟩ := hf (q - 1) (by omega)
      have gf := (hL.2.2 u (f (q - 1)) hu f2).1
      simp (disch := omega) only [X_X10_arrange_53_s, mR_c, hL.1, hC.1, lT, lF, tT, tF, eF, pF, zT, m1F, vT, cI, true_and, and_true, true_implies, false_implies, not_false_eq_true, not_true_eq_false, forall_eq, implies_true, s1I, d1I, le0F, sB_is, sB_cl, shfN_lo, f1, gx]
      exact c_isAhead (by omega) (by omega) gx gf (fun z => absurd ((ha _ _ _).mp z) e) (fun _ => br0 fin)
end ORDER4
