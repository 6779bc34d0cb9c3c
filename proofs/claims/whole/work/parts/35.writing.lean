abbrev wAs : List (Nat × Nat × Nat) := [(2, 106, 60), (10, 100, 120), (11, 100, 120), (12, 100, 120), (13, 100, 120)]
abbrev wNs : List (Nat × Int32) := [(5, -1), (6, -1), (7, -1), (8, -1)]
abbrev rwAs : List (Nat × Nat × Nat) := [(1, 100, 12), (2, 100, 720), (3, 100, 720), (4, 100, 720), (5, 100, 11520)]
/-- a fresh writing, and the rows that it keeps aside -/
def Wrt (r rw : Nat) (G0 : Lay) (σ0 : Mem) (G : Lay) (σ : Mem) : Prop := ∃ (Ga : Lay) (σa σb : Mem), Mk r G0 σ0 wAs wNs [(0, rw)] Ga σa ∧ Mk (gN Ga + 1) (gA Ga 6 0 6) (sZ σa (gN Ga + 1)) rwAs [] [(0, mR σa rw 0)] G σb ∧ σ = sR σb r 1 (gN Ga + 1)
set_option maxHeartbeats 4000000 in
theorem s_X10_init {Q : Lay → Mem → Prop} (r : Nat) (l1 : Nat) (G : Lay) (σ : Mem) (ht : gT G r = 11) (h1 : 1 ≤ r) (h2 : r ≤ gN G) (ht1 : gT G l1 = 6) (h3 : l1 ≤ gN G) (k : ∀ (G1 : Lay) (s1 : Mem), Wrt r l1 G σ G1 s1 → Q G1 s1) : X_X10_init Q r l1 G σ := by
  unfold X_X10_init X_X10_init_0
  have hM := Mk.rf (σ0 := σ) h1 h2
  refine ⟨ht, ?_⟩
  refine mk_step hM ht (by decide) (by decide) (by decide) (by simp) (fun G1 s0 s1 hM => ?_)
  refine fun s1 e1 => ?_
  replace hM := hM.int 5 (-1) (by decide)
  rw [← e1] at hM
  clear e1
  refine fun s1 e1 => ?_
  replace hM := hM.int 6 (-1) (by decide)
  rw [← e1] at hM
  clear e1
  refine fun s1 e1 => ?_
  replace hM := hM.int 7 (-1) (by decide)
  rw [← e1] at hM
  clear e1
  refine fun s1 e1 => ?_
  replace hM := hM.int 8 (-1) (by decide)
  rw [← e1] at hM
  clear e1
  refine mk_step hM ht (by decide) (by decide) (by decide) (by simp) (fun G1 s0 s1 hM => ?_)
  refine mk_step hM ht (by decide) (by decide) (by decide) (by simp) (fun G1 s0 s1 hM => ?_)
  refine mk_step hM ht (by decide) (by decide) (by decide) (by simp) (fun G1 s0 s1 hM => ?_)
  refine mk_step hM ht (by decide) (by decide) (by decide) (by simp) (fun Ga s0 sb hM => ?_)
  refine fun sa e1 => ?_
  replace hM := hM.ref 0 l1 (by simp) (by simp)
  rw [← e1] at hM
  clear e1
  have hM : Mk r G σ wAs wNs [(0, l1)] Ga sa := hM
  have hn : gN Ga = gN G + 5 := hM.2.1
  have hz : gZ Ga = gZ G + 540 := hM.2.2.1
  have hl1 : gT Ga l1 = 6 := by rw [(hM.2.2.2.1 l1 h3).1]; exact ht1
  refine ⟨by omega, by omega, fun G39 e39 s40 e40 => ?_⟩
  subst e39 e40
  refine ⟨by rw [gT_A, if_neg (by omega)]; exact hl1, by rw [gN_A]; omega, by rw [gZ_A]; omega, by rw [gT_A, if_pos rfl], ?_⟩
  refine s_X5_init _ _ _ _ (by rw [gT_A, if_pos rfl]) (by omega) (by rw [gN_A]; omega) (fun G45 s46 hM2 => ?_)
  have hn2 : gN G45 = gN Ga + 1 + 5 := hM2.2.1
  have hz2 : gZ G45 = gZ Ga + 6 + 13692 := hM2.2.2.1
  refine ⟨?_, fun s48 e48 => ⟨by omega, by omega, ?_⟩⟩
  · have e1 := (hM2.2.2.2.1 r (by rw [gN_A]; omega)).1
    rw [e1, gT_A, if_neg (by omega)]
    exact hM.kind ht
  · subst e48
    have e2 : mR (sZ sa (gN Ga + 1)) l1 0 = mR sa l1 0 := by rw [mR_sZ, if_neg (by omega)]
    rw [e2] at hM2
    exact k _ _ ⟨Ga, sa, s46, hM, hM2, rfl⟩
theorem Wrt.kp {r rw : Nat} {G0 : Lay} {σ0 : Mem} {G : Lay} {σ : Mem} (h : Wrt r rw G0 σ0 G σ) : Kp r 11 14238 G0 σ0 G σ := by
  obtain ⟨Ga, σa, σb, hM, hM2, rfl⟩ := h
  have n1 : gN Ga = gN G0 + 5 := hM.2.1
  have z1 : gZ Ga = gZ G0 + 540 := hM.2.2.1
  have n2 : gN G = gN Ga + 1 + 5 := hM2.2.1
  have z2 : gZ G = gZ Ga + 6 + 13692 := hM2.2.2.1
  have hr := hM.1.2
  refine ⟨by omega, by omega, fun a ha => ?_, fun a k ha hne => ?_⟩
  · have e2 := hM2.2.2.2.1 a (by rw [gN_A]; omega)
    have e3 := hM.2.2.2.1 a ha
    rw [e2.1, e2.2, gT_A, gL_A, if_neg (by omega), if_neg (by omega), e3.1, e3.2]
    exact ⟨rfl, rfl⟩
  · have e2 := hM2.2.2.2.2.2.2.2.2.2.2.1 a k (by rw [gN_A]; omega) (by omega)
    rw [mI_sZ, mJ_sZ, mR_sZ, if_neg (by omega), if_neg (by omega), if_neg (by omega)] at e2
    have e3 := hM.2.2.2.2.2.2.2.2.2.2.1 a k ha hne
    rw [mI_sR, mJ_sR, mR_sR, if_neg (by omega), e2.1, e2.2.1, e2.2.2]
    exact e3
