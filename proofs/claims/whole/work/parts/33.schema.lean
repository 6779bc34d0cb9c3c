abbrev kAs : List (Nat × Nat × Nat) := [(5, 105, 16), (7, 102, 4), (8, 100, 4), (9, 100, 4)]
abbrev scAs : List (Nat × Nat × Nat) := [(1, 104, 12), (3, 105, 192), (5, 103, 1500)]
/-- a fresh schema -/
def Sch (r : Nat) (G0 : Lay) (σ0 : Mem) (G : Lay) (σ : Mem) : Prop := ∃ (Ga Gb : Lay) (σa σb : Mem), Mk r G0 σ0 scAs [] [] Ga σa ∧ Lo (gN G0 + 1) 5 38 2 kAs (fun _ => []) [] Ga σa 12 Gb σb ∧ Lo (gN G0 + 2) 1 12 3 [] (fun _ => []) [] Gb σb 192 G σ
theorem nI_lit_le {a j : Nat} {x : Int32} (hx : x = nI a) (ha : a < 2 ^ 31) (hj : j < 2 ^ 31) : x ≤ nI j ↔ a ≤ j := by
  rw [hx]
  exact nI_leI ha hj
set_option maxHeartbeats 4000000 in
theorem s_X6_init {Q : Lay → Mem → Prop} (r : Nat) (G : Lay) (σ : Mem) (ht : gT G r = 7) (h1 : 1 ≤ r) (h2 : r ≤ gN G) (k : ∀ (G1 : Lay) (s1 : Mem), Sch r G σ G1 s1 → Q G1 s1) : X_X6_init Q r G σ := by
  unfold X_X6_init X_X6_init_0
  have hM := Mk.rf (σ0 := σ) h1 h2
  refine ⟨ht, ?_⟩
  refine mk_step hM ht (by decide) (by decide) (by decide) (by simp) (fun G1 s0 s1 hM => ?_)
  refine mk_step hM ht (by decide) (by decide) (by decide) (by simp) (fun G1 s0 s1 hM => ?_)
  refine mk_step hM ht (by decide) (by decide) (by decide) (by simp) (fun Ga s0 sa hM => ?_)
  have hM : Mk r G σ scAs [] [] Ga sa := hM
  have hn : gN Ga = gN G + 3 := hM.2.1
  have hzz : gZ Ga = gZ G + 1704 := hM.2.2.1
  obtain ⟨a1, a2, a3⟩ : gT Ga (gN G + 1) = 104 ∧ gL Ga (gN G + 1) = 12 ∧ mR sa r 1 = gN G + 1 := hM.2.2.2.2.1 0 _ rfl
  obtain ⟨b1, b2, b3⟩ : gT Ga (gN G + 2) = 105 ∧ gL Ga (gN G + 2) = 192 ∧ mR sa r 3 = gN G + 2 := hM.2.2.2.2.1 1 _ rfl
  have htr : gT Ga r = 7 := hM.kind ht
  unfold X_X6_init_34
  refine Lw.by (fun q => ∃ j, j ≤ 12 ∧ q.1 = nI j ∧ Lo (gN G + 1) 5 38 2 kAs (fun _ => []) [] Ga sa j q.2.1 q.2.2) (fun q => 12 - q.1.toNatClampNeg) ?_ _ ⟨0, by decide, rfl, Lo.rf⟩
  rintro K ⟨l1, G2, s2⟩ ⟨j, hj, hl1, hL⟩ hK
  replace hl1 : l1 = nI j := hl1
  replace hL : Lo (gN G + 1) 5 38 2 kAs (fun _ => []) [] Ga sa j G2 s2 := hL
  subst hl1
  have hn2 := hL.1
  have hz2 := hL.2.1
  have htr2 : gT G2 r = 7 := by rw [(hL.2.2.1 r (by omega)).1]; exact htr
  have hmr : ∀ s, mR s2 r s = mR sa r s := fun s => by rw [hL.2.2.2.2.1 r s (by omega), if_neg (by omega)]
  unfold X_X6_init_34_s
  refine ⟨fun hc => ?_, fun hc => ?_⟩
  · have hj12 : j = 12 := by
      have := (nI_lit_le (a := 12) rfl (by decide) (by omega)).mp hc
      omega
    subst hj12
    unfold X_X6_init_61
    refine Lw.by (fun q => ∃ j, j ≤ 192 ∧ q.1 = nI j ∧ Lo (gN G + 2) 1 12 3 [] (fun _ => []) [] G2 s2 j q.2.1 q.2.2) (fun q => 192 - q.1.toNatClampNeg) ?_ _ ⟨0, by decide, rfl, Lo.rf⟩
    rintro K2 ⟨l2, G3, s3⟩ ⟨i, hi, hl2, hL2⟩ hK2
    replace hl2 : l2 = nI i := hl2
    replace hL2 : Lo (gN G + 2) 1 12 3 [] (fun _ => []) [] G2 s2 i G3 s3 := hL2
    subst hl2
    have hn3 := hL2.1
    have hz3 := hL2.2.1
    have htr3 : gT G3 r = 7 := by rw [(hL2.2.2.1 r (by omega)).1]; exact htr2
    have hmr3 : mR s3 r 3 = gN G + 2 := by rw [hL2.2.2.2.2.1 r 3 (by omega), if_neg (by omega), hmr]; exact b3
    have hb1 : gT G2 (gN G + 2) = 105 := by rw [(hL.2.2.1 (gN G + 2) (by omega)).1]; exact b1
    have hb2 : gL G2 (gN G + 2) = 192 := by rw [(hL.2.2.1 (gN G + 2) (by omega)).2]; exact b2
    unfold X_X6_init_61_s
    refine ⟨fun hc2 => ?_, fun hc2 => ?_⟩
    · have hi192 : i = 192 := by
        have := (nI_lit_le (a := 192) rfl (by decide) (by omega)).mp hc2
        omega
      subst hi192
      exact ⟨by omega, by omega, k _ _ ⟨Ga, G2, sa, s2, hM, hL, hL2⟩⟩
    · have hi2 : i < 192 := by
        have : ¬ 192 ≤ i := fun h => hc2 ((nI_lit_le (a := 192) rfl (by decide) (by omega)).mpr h)
        omega
      refine ⟨htr3, by omega, by omega, fun G4 e4 s5 e5 => ?_⟩
      subst e4 e5
      refine ⟨by rw [gN_A]; omega, by rw [gZ_A]; omega, by rw [gT_A, if_pos rfl], ?_⟩
      refine s_X2_init _ _ _ (by rw [gT_A, if_pos rfl]) (by omega) (by rw [gN_A]; omega) (fun G9 s10 hM2 => ?_)
      have hL3 := hL2.step (z0 := 12) (by omega) rfl rfl hM2
      rw [hmr3]
      have e1 : gT G9 (gN G + 2) = 105 := by rw [(hL3.2.2.1 (gN G + 2) (by omega)).1]; exact hb1
      have e2 : gL G9 (gN G + 2) = 192 := by rw [(hL3.2.2.1 (gN G + 2) (by omega)).2]; exact hb2
      have e3 : gT G9 (gN G3 + 1) = 3 := by
        have := (hL3.2.2.2.2.2 i (by omega)).1
        rw [show gN G3 + 1 = gN G2 + 1 + 1 * i by omega]
        exact this
      refine ⟨e1, by rw [e2]; exact vp_in_nI hi2 (by decide), e3, fun s14 e14 => ?_⟩
      subst e14
      rw [nI_clamp (by omega)]
      refine hK2 _ ⟨i + 1, by omega, (nI_1 i), hL3⟩ ?_
      show 192 - (nI i + 1).toNatClampNeg < 192 - (nI i).toNatClampNeg
      rw [nI_1, nI_clamp (by omega), nI_clamp (by omega)]
      omega
  · have hj2 : j < 12 := by
      have : ¬ 12 ≤ j := fun h => hc ((nI_lit_le (a := 12) rfl (by decide) (by omega)).mpr h)
      omega
    refine ⟨htr2, by omega, by omega, fun G4 e4 s5 e5 => ?_⟩
    subst e4 e5
    refine ⟨by rw [gN_A]; omega, by rw [gZ_A]; omega, by rw [gT_A, if_pos rfl], ?_⟩
    refine s_X1_init _ _ _ (by rw [gT_A, if_pos rfl]) (by omega) (by rw [gN_A]; omega) (fun G9 s10 hM2 => ?_)
    have hL3 := hL.step (z0 := 10) (by omega) rfl rfl hM2
    rw [hmr, a3]
    have e1 : gT G9 (gN G + 1) = 104 := by rw [(hL3.2.2.1 (gN G + 1) (by omega)).1]; exact a1
    have e2 : gL G9 (gN G + 1) = 12 := by rw [(hL3.2.2.1 (gN G + 1) (by omega)).2]; exact a2
    have e3 : gT G9 (gN G2 + 1) = 2 := by
      have := (hL3.2.2.2.2.2 j (by omega)).1
      rw [show gN G2 + 1 = gN Ga + 1 + 5 * j by omega]
      exact this
    refine ⟨e1, by rw [e2]; exact vp_in_nI hj2 (by decide), e3, fun s14 e14 => ?_⟩
    subst e14
    rw [nI_clamp (by omega)]
    refine hK _ ⟨j + 1, by omega, (nI_1 j), hL3⟩ ?_
    show 12 - (nI j + 1).toNatClampNeg < 12 - (nI j).toNatClampNeg
    rw [nI_1, nI_clamp (by omega), nI_clamp (by omega)]
    omega
