section DROP3
variable {G : Lay} {nn nn' sc n r0 : Nat} {mc rt hc K K' N us : Nat → Nat} {κ κ' ρ ρ' κ1 ρ1 : Mem} {u k : Nat} {cF : Nat} {fl : Nat → Nat}
/-- keys are followed, one behind the other: the class's loop over a list -/
theorem j_keys (hG : Ly G) (hD : DR nn sc n mc rt hc K N r0 u us cF fl κ ρ) (hu : u < 4) {tt t e8 : Nat} (htt : tt < n) (ht : t ≤ 120) (he8 : e8 < 208) (et : mI ρ 1291 e8 = nI tt) (kc : ∀ i, i < t → mI κ (536 + 184 * u) i = mI ρ 1329 i) (kx : ∀ i, i < t → ∃ x, 1 ≤ x ∧ x ≤ K (rt tt) ∧ mI ρ 1329 i = nI x) :
    (∃ us' cF' fl' κ' ρ', DR nn sc n mc rt hc K N r0 u us' cF' fl' κ' ρ' ∧ us u ≤ us' u ∧ cF ≤ cF' ∧ (∀ i, i < cF → fl' i = fl i) ∧ KeepD sc u us κ ρ κ' ρ' ∧
      (∀ (ρ1 : Mem) (Q : Int32 → Mem → Prop), Q 1 (mg κ' ρ1) → X_X9_followMember_65 G Q (533 + 184 * u) (nI (rt tt)) (nI t) 0 (mg κ ρ1)) ∧
      ∀ (κ1 : Mem) (Q : Int32 → Mem → Prop) (K30 K49 : Int32 × Int32 × Mem → Prop) (l5 l6 l7 : Int32), K49 (nI cF', l7 + 1, mg κ1 ρ') → X_X12_drop_195 G Q K30 K49 1282 (nI u) (nI cF) l5 l6 l7 (nI e8) (nI t) (mg κ1 ρ)) ∨
    ∃ us' κ' ρ', RelA nn sc n mc rt hc K N r0 us' κ' ρ' ∧
      (∀ (ρ1 : Mem) (Q : Int32 → Mem → Prop), Q 0 (mg κ' ρ1) → X_X9_followMember_65 G Q (533 + 184 * u) (nI (rt tt)) (nI t) 0 (mg κ ρ1)) ∧
      ∀ (κ1 : Mem) (Q : Int32 → Mem → Prop) (K30 K49 : Int32 × Int32 × Mem → Prop) (l5 l6 l7 : Int32), Q (-2) (mg κ1 ρ') → X_X12_drop_195 G Q K30 K49 1282 (nI u) (nI cF) l5 l6 l7 (nI e8) (nI t) (mg κ1 ρ) := by
  have hL := hG.1
  have hM := hG.2.2.2
  have hrt := hD.1.2.2.2.1.rt12 htt
  have h12 := hD.1.2.2.2.1.le
  have key := Lw.two (α1 := Int32 × Mem) (α2 := Int32 × Int32 × Mem) (β := Nat × (Nat → Nat) × Nat × (Nat → Nat) × Mem × Mem) (γ := Mem × Mem) (ι1 := (Int32 → Mem → Prop) × Mem) (ι2 := (Int32 → Mem → Prop) × Mem × (Int32 × Int32 × Mem → Prop) × (Int32 × Int32 × Mem → Prop) × Int32 × Int32 × Int32)
    (fun q => X_X9_followMember_65_s G q.1 (533 + 184 * u) (nI (rt tt)) (nI t)) (fun b q => (nI b.1, mg b.2.2.2.2.1 q.2)) (fun q s => q.1 0 (mg s.1 q.2))
    (fun q => X_X12_drop_198_s G q.1 q.2.2.1 q.2.2.2.1 1282 (nI u) q.2.2.2.2.1 q.2.2.2.2.2.1 q.2.2.2.2.2.2 (nI e8) (nI t)) (fun b q => (nI b.2.2.1, nI b.1, mg q.2.1 b.2.2.2.2.2)) (fun q s => q.1 (-2) (mg q.2.1 s.2)) t
    (fun i b => b.1 = i ∧ DR nn sc n mc rt hc K N r0 u b.2.1 b.2.2.1 b.2.2.2.1 b.2.2.2.2.1 b.2.2.2.2.2 ∧ us u ≤ b.2.1 u ∧ cF ≤ b.2.2.1 ∧ (∀ i, i < cF → b.2.2.2.1 i = fl i) ∧ KeepD sc u us κ ρ b.2.2.2.2.1 b.2.2.2.2.2) (fun b => b.1 = t) (fun s => ∃ us', RelA nn sc n mc rt hc K N r0 us' s.1 s.2) (by
    rintro i ⟨i0, us0, c0, fl0, κ0, ρ0⟩ hi ⟨rfl, h1, h2, h3, h4, h5⟩
    simp only at h1 h2 h3 h4 h5 ⊢
    by_cases hit : i0 = t
    · exact Or.inl hit
    · right
      obtain ⟨x, x1, x2, ex⟩ := kx i0 (by omega)
      have hmS := h1.1.1.2.1
      have hCS := h1.1.1.1
      have zS := h1.1.2.2.2.1
      have ex' : mI ρ0 1329 i0 = nI x := (h5.2.2.1 i0).trans ex
      have ec' : mI κ0 (536 + 184 * u) i0 = nI x := (h5.2.1 i0).trans ((kc i0 (by omega)).trans ex)
      have et' : mI ρ0 1291 e8 = nI tt := by rw [h5.2.2.2.1.I (Or.inr (Or.inr (Or.inl ⟨by decide, by decide, he8⟩)))]; exact et
      rcases j_fk hG h1 hu (f := rt tt) (x := x) (by omega) x1 x2 with ⟨us', cF', fl', κ', ρ', a1, a2, a3, a4, a5, a6, a7⟩ | ⟨a6, a7⟩
      · refine Or.inl ⟨by omega, (i0 + 1, us', cF', fl', κ', ρ'), ⟨rfl, a1, by simp only; omega, by simp only; omega, fun i hi => (a4 i (by omega)).trans (h4 i hi), h5.tr h2 a5⟩, fun q K' hK => ?_, fun q K' hK => ?_⟩
        · simp (disch := omega) only [X_X9_followMember_65_s, mI_c, mR_c, hL.2.1, hCS.2.1, lT, lF, tT, tF, eF, pF, zT, m1F, vT, cI, true_and, and_true, true_implies, false_implies, not_false_eq_true, not_true_eq_false, forall_eq, implies_true, ec', nI_1]
          exact a6 _ _ (br1 hK)
        · simp (disch := omega) only [X_X12_drop_198_s, mI_m, mR_m, hM.1, hM.2, hmS.1, hmS.2, lT, lF, tT, tF, eF, pF, zT, m1F, vT, cI, true_and, and_true, true_implies, false_implies, not_false_eq_true, not_true_eq_false, forall_eq, implies_true, et']
          refine m_rootOf hM hmS zS htt ?_
          simp (disch := omega) only [mI_m, mR_m, hM.1, hM.2, hmS.1, hmS.2, lT, lF, tT, tF, eF, pF, zT, m1F, vT, cI, true_and, and_true, true_implies, false_implies, not_false_eq_true, not_true_eq_false, forall_eq, implies_true, ex']
          exact a7 _ _ _ _ _ _ _ _ _ _ _ (by rw [nI_1]; exact hK)
      · refine Or.inr ⟨(κ0, ρ0), ⟨us0, h1.1⟩, fun q K' hE => ?_, fun q K' hE => ?_⟩
        · simp (disch := omega) only [X_X9_followMember_65_s, mI_c, mR_c, hL.2.1, hCS.2.1, lT, lF, tT, tF, eF, pF, zT, m1F, vT, cI, true_and, and_true, true_implies, false_implies, not_false_eq_true, not_true_eq_false, forall_eq, implies_true, ec', bzT0]
          exact a6 _ _ (br0 hE)
        · simp (disch := omega) only [X_X12_drop_198_s, mI_m, mR_m, hM.1, hM.2, hmS.1, hmS.2, lT, lF, tT, tF, eF, pF, zT, m1F, vT, cI, true_and, and_true, true_implies, false_implies, not_false_eq_true, not_true_eq_false, forall_eq, implies_true, et']
          refine m_rootOf hM hmS zS htt ?_
          simp (disch := omega) only [mI_m, mR_m, hM.1, hM.2, hmS.1, hmS.2, lT, lF, tT, tF, eF, pF, zT, m1F, vT, cI, true_and, and_true, true_implies, false_implies, not_false_eq_true, not_true_eq_false, forall_eq, implies_true, ex']
          exact a7 _ _ (brF (by decide) hE)) 0 (Nat.zero_le _) (0, us, cF, fl, κ, ρ) ⟨rfl, hD, Nat.le_refl _, Nat.le_refl _, fun _ _ => rfl, KeepD.rf⟩
  rcases key with ⟨i', ⟨i0, us0, c0, fl0, κ0, ρ0⟩, k1, ⟨k2, k3, k4, k5, k6, k7⟩, k8, k9, k10⟩ | ⟨⟨κ0, ρ0⟩, ⟨us0, k1⟩, k2, k3⟩
  · simp only at k2 k3 k4 k5 k6 k7 k8
    subst k8
    refine Or.inl ⟨us0, c0, fl0, κ0, ρ0, k3, k4, k5, k6, k7, fun ρ1 Q hQ => ?_, fun κ1 Q K30 K49 l5 l6 l7 hK => ?_⟩
    · refine k9 (Q, ρ1) (fun K' => ?_)
      simp (disch := omega) only [X_X9_followMember_65_s, lT, lF, tT, tF, eF, pF, zT, m1F, vT, cI, true_and, and_true, true_implies, false_implies, not_false_eq_true, not_true_eq_false, forall_eq, implies_true, bzT1]
      exact hQ
    · refine k10 (Q, κ1, K30, K49, l5, l6, l7) (fun K' => ?_)
      simp (disch := omega) only [X_X12_drop_198_s, X_X12_drop_326, lT, lF, tT, tF, eF, pF, zT, m1F, vT, cI, true_and, and_true, true_implies, false_implies, not_false_eq_true, not_true_eq_false, forall_eq, implies_true]
      exact hK
  · exact Or.inr ⟨us0, κ0, ρ0, k1, fun ρ1 Q hQ => k2 (Q, ρ1) hQ, fun κ1 Q K30 K49 l5 l6 l7 hQ => k3 (Q, κ1, K30, K49, l5, l6, l7) hQ⟩
end DROP3
