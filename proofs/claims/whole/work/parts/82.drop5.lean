section DROP5
variable {G : Lay} {nn nn' sc n r0 : Nat} {mc rt hc K K' N us : Nat → Nat} {κ κ' ρ ρ' κ1 ρ1 : Mem} {u k : Nat} {cF : Nat} {fl : Nat → Nat}
/-- one in the row, with all its members -/
theorem j_own (hG : Ly G) (hnn : nn ≤ 512) (hD : DR nn sc n mc rt hc K N r0 u us cF fl κ ρ) (hu : u < 4) (hk : k < us u) (hl : LiveS ρ (60 * u + k)) :
    (∃ us' cF' fl' κ' ρ', DR nn sc n mc rt hc K N r0 u us' cF' fl' κ' ρ' ∧ us u ≤ us' u ∧ cF ≤ cF' ∧ (∀ i, i < cF → fl' i = fl i) ∧
      RunC (fun Q σ => X_X9_followOwned G Q (533 + 184 * u) (537 + 184 * u + 3 * k) σ) κ 1 κ' ∧
      ∀ (κ1 : Mem) (Q : Int32 → Mem → Prop) (K30 : Int32 × Int32 × Mem → Prop) (l5 : Int32), K30 (nI cF', l5 + 1, mg κ1 ρ') → X_X12_drop_49 G Q K30 1282 (nI u) (nI cF) l5 (nI (60 * u + k)) 0 (mg κ1 ρ)) ∨
    ∃ us' κ' ρ', RelA nn sc n mc rt hc K N r0 us' κ' ρ' ∧
      RunC (fun Q σ => X_X9_followOwned G Q (533 + 184 * u) (537 + 184 * u + 3 * k) σ) κ 0 κ' ∧
      ∀ (κ1 : Mem) (Q : Int32 → Mem → Prop) (K30 : Int32 × Int32 × Mem → Prop) (l5 : Int32), Q (-2) (mg κ1 ρ') → X_X12_drop_49 G Q K30 1282 (nI u) (nI cF) l5 (nI (60 * u + k)) 0 (mg κ1 ρ) := by
  have hL := hG.1
  have hM := hG.2.2.2
  have hA := hD.1
  have ho := hD.2.1
  obtain ⟨⟨hC, hm, hNu⟩, xT, xF, xS, xN, xK, xR, xU, xW, xD, xY, xZ⟩ := id hA
  have hs2 := xS.s2
  have hT2 := hG.s hs2
  have hK2 := hC.ss hs2
  have h12 := xS.le
  obtain ⟨f, f1, f2, c, c1, c2, c3, c4, c5⟩ := hA.liv hu ho hk hl
  have h16 := xS.m16 c1
  obtain ⟨o1, o2, o3, o4, o5⟩ := xU.op hu ho
  obtain ⟨t1, t2, t3, t4, t5, t6⟩ := o5 k hk
  rw [c2] at t4
  have cH : ∀ (ρ1 : Mem) (Q : Int32 → Mem → Prop), X_X9_followOwned_18 G Q (533 + 184 * u) (537 + 184 * u + 3 * k) (sc + 4 + 5 * c) 0 (mg κ ρ1) → X_X9_followOwned G Q (533 + 184 * u) (537 + 184 * u + 3 * k) (mg κ ρ1) := by
    intro ρ1 Q hh
    simp (disch := omega) only [X_X9_followOwned_56, X_X9_followOwned_0, X_X9_followOwned, mI_c, mR_c, hL.2.1, hL.1, hL.2.2, hC.2.1, xS.r13, hT2.1, hK2.1, hK2.2.1, t4, lT, lF, tT, tF, eF, pF, zT, m1F, vT, cI, true_and, and_true, true_implies, false_implies, not_false_eq_true, not_true_eq_false, forall_eq, implies_true]
    exact hh
  have key := Lw.two (α1 := Int32 × Mem) (α2 := Int32 × Int32 × Mem) (β := Nat × (Nat → Nat) × Nat × (Nat → Nat) × Mem × Mem) (γ := Mem × Mem) (ι1 := (Int32 → Mem → Prop) × Mem) (ι2 := (Int32 → Mem → Prop) × Mem × (Int32 × Int32 × Mem → Prop) × Int32)
    (fun q => X_X9_followOwned_18_s G q.1 (533 + 184 * u) (537 + 184 * u + 3 * k) (sc + 4 + 5 * c)) (fun b q => (nI b.1, mg b.2.2.2.2.1 q.2)) (fun q s => q.1 0 (mg s.1 q.2))
    (fun q => X_X12_drop_49_s G q.1 q.2.2.1 1282 (nI u) q.2.2.2 (nI (60 * u + k))) (fun b q => (nI b.2.2.1, nI b.1, mg q.2.1 b.2.2.2.2.2)) (fun q s => q.1 (-2) (mg q.2.1 s.2)) (mc c)
    (fun i b => b.1 = i ∧ DR nn sc n mc rt hc K N r0 u b.2.1 b.2.2.1 b.2.2.2.1 b.2.2.2.2.1 b.2.2.2.2.2 ∧ us u ≤ b.2.1 u ∧ cF ≤ b.2.2.1 ∧ (∀ i, i < cF → b.2.2.2.1 i = fl i) ∧ KeepE sc u us κ ρ b.2.2.2.2.1 b.2.2.2.2.2) (fun b => b.1 = mc c) (fun s => ∃ us', RelA nn sc n mc rt hc K N r0 us' s.1 s.2) (by
    rintro i ⟨i0, us0, c0, fl0, κ0, ρ0⟩ hi ⟨rfl, h1, h2, h3, h4, h5⟩
    simp only at h1 h2 h3 h4 h5 ⊢
    by_cases hit : i0 = mc c
    · exact Or.inl hit
    · right
      have lv := h5.1 k hk hl
      rcases j_mem (k := k) (c := c) (m := i0) hG hnn h1 hu (by omega) (hl.fr lv) (by rw [lv.I (Or.inl ⟨by decide, by decide, rfl⟩)]; exact c2) c1 (by omega) with ⟨us', cF', fl', κ', ρ', a1, a2, a3, a4, a5, a6, a7⟩ | ⟨us', κ', ρ', a1, a6, a7⟩
      · exact Or.inl ⟨by omega, (i0 + 1, us', cF', fl', κ', ρ'), ⟨rfl, a1, by simp only; omega, by simp only; omega, fun i hi => (a4 i (by omega)).trans (h4 i hi), h5.tr h2 a5⟩, fun q K' hK => a6 _ _ _ hK, fun q K' hK => a7 _ _ _ _ _ hK⟩
      · exact Or.inr ⟨(κ', ρ'), ⟨us', a1⟩, fun q K' hE => a6 _ _ _ hE, fun q K' hE => a7 _ _ _ _ _ hE⟩) 0 (Nat.zero_le _) (0, us, cF, fl, κ, ρ) ⟨rfl, hD, Nat.le_refl _, Nat.le_refl _, fun _ _ => rfl, KeepE.rf⟩
  rcases key with ⟨i', ⟨i0, us0, c0, fl0, κ0, ρ0⟩, k1, ⟨k2, k3, k4, k5, k6, k7⟩, k8, k9, k10⟩ | ⟨⟨κ0, ρ0⟩, ⟨us0, k1⟩, k2, k3⟩
  · simp only at k2 k3 k4 k5 k6 k7 k8
    subst k8
    have zS := k3.1.2.2.2.1
    have zC := k3.1.1.1
    have zm := k3.1.1.2.1
    have lv := k7.1 k hk hl
    refine Or.inl ⟨us0, c0, fl0, κ0, ρ0, k3, k4, k5, k6, fun ρ1 Q hQ => cH _ _ ?_, fun κ1 Q K30 l5 hK => ?_⟩
    · unfold X_X9_followOwned_18
      refine k9 (Q, ρ1) (fun K' => ?_)
      simp (disch := omega) only [X_X9_followOwned_18_s, mI_c, hT2.2.1, (zS.cls c1).2.2.2.1, lT, lF, tT, tF, eF, pF, zT, m1F, vT, cI, true_and, and_true, true_implies, false_implies, not_false_eq_true, not_true_eq_false, forall_eq, implies_true, bzT1]
      exact hQ
    · unfold X_X12_drop_49
      refine k10 (Q, κ1, K30, l5) (fun K' => ?_)
      have ec0 : mI ρ0 1322 (60 * u + k) = nI c := by rw [lv.I (Or.inl ⟨by decide, by decide, rfl⟩)]; exact c2
      simp (disch := omega) only [X_X12_drop_49_s, mI_m, mR_m, hM.1, hM.2, zm.1, zm.2, ec0, (zS.cls c1).2.2.2.2.1, lT, lF, tT, tF, eF, pF, zT, m1F, vT, cI, true_and, and_true, true_implies, false_implies, not_false_eq_true, not_true_eq_false, forall_eq, implies_true]
      exact hK
  · refine Or.inr ⟨us0, κ0, ρ0, k1, fun ρ1 Q hQ => cH _ _ ?_, fun κ1 Q K30 l5 hQ => ?_⟩
    · unfold X_X9_followOwned_18
      exact k2 (Q, ρ1) hQ
    · unfold X_X12_drop_49
      exact k3 (Q, κ1, K30, l5) hQ
/-- an object's state behind a drop -/
theorem RelA.st (hA : RelA nn sc n mc rt hc K N r0 us κ ρ) (hu : u < 4) (ho : mI ρ 1316 u = 1) (hk : k < us u) (hl : LiveS ρ (60 * u + k)) {v : Int32} (hv : v = 3 ∨ v = 4) : RelA nn sc n mc rt hc K N r0 us (sI κ (537 + 184 * u + 3 * k) 1 v) (sI ρ 1319 (60 * u + k) v) := by
  obtain ⟨⟨hC, hm, hNu⟩, xT, xF, xS, xN, xK, xR, xU, xW, xD, xY, xZ⟩ := id hA
  obtain ⟨o1, o2, o3, o4, o5⟩ := xU.op hu ho
  obtain ⟨t1, t2, t3, t4, t5, t6⟩ := o5 k hk
  obtain ⟨s, f, x, y1, y2, y3, y4, y5, y6, y7, y8, y9, y10⟩ := xZ.1 u hu ho k hk
  have hlv : LivW n mc rt K ρ (60 * u + k) f := by
    rcases hl with e | e
    · have : s = 1 := (eI (b := 1) (by omega) (by decide)).mp (y2.symm.trans e)
      exact y9 (by omega) (by omega)
    · have : s = 2 := (eI (b := 2) (by omega) (by decide)).mp (y2.symm.trans e)
      exact y9 (by omega) (by omega)
  have hv2 : v ≠ 2 := by rcases hv with rfl | rfl <;> decide
  refine hA.thing (hC.wI _ _ _) (hm.wI _ _ _) hu ho hk (Eqv.wI (fun h => h (Or.inl (Or.inl ⟨rfl, by decide, by decide⟩))) _) (Eqv.wI (fun h => h (Or.inl (Or.inl ⟨by decide, by decide, rfl⟩))) _) ?_ ⟨?_, ?_, ?_, ?_, ?_, fun j hj => ?_⟩ ?_ (I_cl (by decide)) (I_cl (by decide)) (fun h => by rw [I_is] at h; exact absurd h hv2) (fun h => by rw [I_is] at h; rcases hv with rfl | rfl <;> rcases h with h | h <;> exact absurd h (by decide))
  · simp (disch := omega) only [I_cl]; exact o4
  · rw [I_is, I_is]
  · simp (disch := omega) only [I_cl, I_sl]; exact t2
  · simp (disch := omega) only [I_cl, I_sl]; exact t3
  · simp (disch := omega) only [I_cl, I_sl]; exact t4
  · simp (disch := omega) only [I_cl, I_sl]; exact t5
  · simp (disch := omega) only [I_cl, I_sl]; exact t6 j hj
  · have es : ∃ s', 3 ≤ s' ∧ s' ≤ 4 ∧ v = nI s' := by
      rcases hv with rfl | rfl
      · exact ⟨3, by decide, by decide, rfl⟩
      · exact ⟨4, by decide, by decide, rfl⟩
    obtain ⟨s', s1, s2, s3⟩ := es
    refine ⟨s', f, x, s2, by rw [I_is, s3], y3, by rw [I_cl (by decide)]; exact y4, y5, y6, by rw [I_cl (by decide)]; exact y7, by rw [I_cl (by decide)]; exact y8, fun _ _ => ?_, fun e => by omega⟩
    obtain ⟨c, c1, c2, c3, c4, c5⟩ := hlv
    refine ⟨c, c1, by rw [I_cl (by decide)]; exact c2, c3, fun m m1 m2 => ?_, fun m m1 => ?_⟩
    · rw [I_cl (by decide), I_cl (by decide)]; exact c4 m m1 m2
    · rw [I_cl (a := 1319) (b := 1324) (by decide), I_cl (a := 1319) (b := 1290) (by decide), I_cl (a := 1319) (b := 1291) (by decide)]; exact c5 m m1
theorem DR.c60 (hD : DR nn sc n mc rt hc K N r0 u us cF fl κ ρ) (hu : u < 4) : cF ≤ 60 := by
  have o1 := (hD.1.2.2.2.2.2.2.2.1.op hu hD.2.1).1
  have : ∀ m, cnt (fun q => mI κ (537 + 184 * u + 3 * q) 8) 1 m ≤ m := by
    intro m
    induction m with
    | zero => exact Nat.le_refl _
    | succ m ih =>
      show _ + (if _ then 1 else 0) ≤ m + 1
      by_cases e : mI κ (537 + 184 * u + 3 * m) 8 = 1
      · rw [if_pos e]; omega
      · rw [if_neg e]; omega
  have h1 := this (us u)
  have h2 := hD.2.2.2.2.2.2
  omega
/-- the row's end: all in it become GONE or DROPPED -/
theorem j_fall (hG : Ly G) (hD : DR nn sc n mc rt hc K N r0 u us cF fl κ ρ) (hu : u < 4) :
    ∃ κ' ρ', RelA nn sc n mc rt hc K N r0 us κ' ρ' ∧ (∀ (ρ1 : Mem) (Q : Int32 → Mem → Prop), Q (nI cF) (mg κ' ρ1) → X_X9_dropFrom_70 G Q (533 + 184 * u) 0 (mg κ ρ1)) ∧ ∀ (κ1 : Mem) (Q : Int32 → Mem → Prop), Q (nI cF) (mg κ1 ρ') → X_X12_drop_341 G Q 1282 (nI cF) 0 (mg κ1 ρ) := by
  have hL := hG.1
  have hM := hG.2.2.2
  have hc60 := hD.c60 hu
  obtain ⟨hA, ho, d1, d2, d3, d4, d5⟩ := hD
  have o1 := (hA.2.2.2.2.2.2.2.1.op hu ho).1
  have key := Lw.two (α1 := Int32 × Mem) (α2 := Int32 × Mem) (β := Nat × Mem × Mem) (γ := Unit) (ι1 := (Int32 → Mem → Prop) × Mem) (ι2 := (Int32 → Mem → Prop) × Mem)
    (fun q => X_X9_dropFrom_70_s G q.1 (533 + 184 * u)) (fun b q => (nI b.1, mg b.2.1 q.2)) (fun _ _ => False)
    (fun q => X_X12_drop_341_s G q.1 1282 (nI cF)) (fun b q => (nI b.1, mg q.2 b.2.2)) (fun _ _ => False) cF
    (fun i b => b.1 = i ∧ RelA nn sc n mc rt hc K N r0 us b.2.1 b.2.2 ∧ mI b.2.2 1316 u = 1 ∧ mI b.2.1 (533 + 184 * u) 7 = nI cF ∧ ∀ j, j < cF → mR b.2.1 (535 + 184 * u) j = 537 + 184 * u + 3 * fl j ∧ mI b.2.2 1328 j = nI (60 * u + fl j) ∧ (i ≤ j → LiveS b.2.2 (60 * u + fl j))) (fun b => b.1 = cF) (fun _ => False) (by
    rintro i ⟨i0, κ0, ρ0⟩ hi ⟨rfl, h1, h2, h3, h4⟩
    simp only at h1 h2 h3 h4 ⊢
    by_cases hit : i0 = cF
    · exact Or.inl hit
    · right; left
      have hi0 : i0 < cF := by omega
      obtain ⟨a1, a2, a3⟩ := h4 i0 hi0
      have ak := (d2 i0 hi0).1
      have hlv := a3 (Nat.le_refl _)
      have zC := h1.1.1
      have zm := h1.1.2.1
      obtain ⟨-, ⟨t1, -⟩, -⟩ := h1.th hu h2 ak
      have fin : ∀ v : Int32, (v = 3 ∨ v = 4) → i0 + 1 = i0 + 1 ∧ RelA nn sc n mc rt hc K N r0 us (sI κ0 (537 + 184 * u + 3 * fl i0) 1 v) (sI ρ0 1319 (60 * u + fl i0) v) ∧ mI (sI ρ0 1319 (60 * u + fl i0) v) 1316 u = 1 ∧ mI (sI κ0 (537 + 184 * u + 3 * fl i0) 1 v) (533 + 184 * u) 7 = nI cF ∧ ∀ j, j < cF → mR (sI κ0 (537 + 184 * u + 3 * fl i0) 1 v) (535 + 184 * u) j = 537 + 184 * u + 3 * fl j ∧ mI (sI ρ0 1319 (60 * u + fl i0) v) 1328 j = nI (60 * u + fl j) ∧ (i0 + 1 ≤ j → LiveS (sI ρ0 1319 (60 * u + fl i0) v) (60 * u + fl j)) := by
        intro v hv
        refine ⟨rfl, h1.st hu h2 ak hlv hv, ?_, ?_, fun j hj => ⟨(h4 j hj).1, ?_, fun hij => ?_⟩⟩
        · rw [I_cl (by decide)]; exact h2
        · rw [I_cl (by omega)]; exact h3
        · rw [I_cl (by decide)]; exact (h4 j hj).2.1
        · unfold LiveS
          have : fl j ≠ fl i0 := fun e => by have := d3 j i0 hj hi0 e; omega
          rw [I_sl (by omega)]
          exact (h4 j hj).2.2 (by omega)
      by_cases e2 : mI ρ0 1319 (60 * u + fl i0) = 2
      · refine ⟨hi0, (i0 + 1, sI κ0 (537 + 184 * u + 3 * fl i0) 1 4, sI ρ0 1319 (60 * u + fl i0) 4), fin 4 (Or.inr rfl), fun q K' hK => ?_, fun q K' hK => ?_⟩
        · simp (disch := omega) only [X_X9_dropFrom_70_s, X_X9_dropFrom_99, mI_c, mR_c, sI_c, hL.2.1, hL.2.2, zC.2.1, a1, h3, lT, lF, tT, tF, eF, pF, zT, m1F, vT, cI, true_and, and_true, true_implies, false_implies, not_false_eq_true, not_true_eq_false, forall_eq, implies_true, nI_1, t1, e2]
          exact hK
        · simp (disch := omega) only [X_X12_drop_341_s, X_X12_drop_380, mI_m, mR_m, sI_m, hM.1, hM.2, zm.1, zm.2, a2, lT, lF, tT, tF, eF, pF, zT, m1F, vT, cI, true_and, and_true, true_implies, false_implies, not_false_eq_true, not_true_eq_false, forall_eq, implies_true, nI_1, e2]
          exact hK
      · refine ⟨hi0, (i0 + 1, sI κ0 (537 + 184 * u + 3 * fl i0) 1 3, sI ρ0 1319 (60 * u + fl i0) 3), fin 3 (Or.inl rfl), fun q K' hK => ?_, fun q K' hK => ?_⟩
        · simp (disch := omega) only [X_X9_dropFrom_70_s, X_X9_dropFrom_99, mI_c, mR_c, sI_c, hL.2.1, hL.2.2, zC.2.1, a1, h3, lT, lF, tT, tF, eF, pF, zT, m1F, vT, cI, true_and, and_true, true_implies, false_implies, not_false_eq_true, not_true_eq_false, forall_eq, implies_true, nI_1, t1]
          exact brF e2 hK
        · simp (disch := omega) only [X_X12_drop_341_s, X_X12_drop_380, mI_m, mR_m, sI_m, hM.1, hM.2, zm.1, zm.2, a2, lT, lF, tT, tF, eF, pF, zT, m1F, vT, cI, true_and, and_true, true_implies, false_implies, not_false_eq_true, not_true_eq_false, forall_eq, implies_true, nI_1]
          exact brF e2 hK) 0 (Nat.zero_le _) (0, κ, ρ) ⟨rfl, hA, ho, d1, fun j hj => ⟨(d2 j hj).2.1, (d2 j hj).2.2.1, fun _ => (d2 j hj).2.2.2⟩⟩
  rcases key with ⟨i', ⟨i0, κ0, ρ0⟩, k1, ⟨k2, k3, k4, k5, k6⟩, k8, k9, k10⟩ | ⟨-, k1, -⟩
  · simp only at k2 k3 k4 k5 k6 k8
    subst k8
    refine ⟨κ0, ρ0, k3, fun ρ1 Q hQ => ?_, fun κ1 Q hQ => ?_⟩
    · unfold X_X9_dropFrom_70
      refine k9 (Q, ρ1) (fun K' => ?_)
      simp (disch := omega) only [X_X9_dropFrom_70_s, mI_c, hL.2.1, k5, lT, lF, tT, tF, eF, pF, zT, m1F, vT, cI, true_and, and_true, true_implies, false_implies, not_false_eq_true, not_true_eq_false, forall_eq, implies_true]
      exact hQ
    · unfold X_X12_drop_341
      refine k10 (Q, κ1) (fun K' => ?_)
      simp (disch := omega) only [X_X12_drop_341_s, lT, lF, tT, tF, eF, pF, zT, m1F, vT, cI, true_and, and_true, true_implies, false_implies, not_false_eq_true, not_true_eq_false, forall_eq, implies_true]
      exact hQ
  · exact k1.elim
end DROP5
