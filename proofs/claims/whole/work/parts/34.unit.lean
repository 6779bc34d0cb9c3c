abbrev tAs : List (Nat × Nat × Nat) := [(6, 100, 16), (7, 100, 16)]
abbrev uAs : List (Nat × Nat × Nat) := [(1, 106, 60), (2, 106, 60), (3, 100, 120)]
/-- a fresh unit with its objects -/
def Unt (r : Nat) (num : Int32) (rw : Nat) (G0 : Lay) (σ0 : Mem) (G : Lay) (σ : Mem) : Prop := ∃ (Ga : Lay) (σa : Mem), Mk r G0 σ0 uAs [] [(0, rw)] Ga σa ∧ Lo (gN G0 + 1) 3 43 8 tAs (fun i => [(0, num * 100 + nI i)]) [] Ga σa 60 G σ
set_option maxHeartbeats 4000000 in
theorem s_X9_init {Q : Lay → Mem → Prop} (r : Nat) (l1 : Int32) (l2 : Nat) (G : Lay) (σ : Mem) (ht : gT G r = 10) (h1 : 1 ≤ r) (h2 : r ≤ gN G) (k : ∀ (G1 : Lay) (s1 : Mem), Unt r l1 l2 G σ G1 s1 → Q G1 s1) : X_X9_init Q r l1 l2 G σ := by
  unfold X_X9_init X_X9_init_0
  have hM := Mk.rf (σ0 := σ) h1 h2
  refine ⟨ht, ?_⟩
  refine mk_step hM ht (by decide) (by decide) (by decide) (by simp) (fun G1 s0 s1 hM => ?_)
  refine mk_step hM ht (by decide) (by decide) (by decide) (by simp) (fun G1 s0 s1 hM => ?_)
  refine mk_step hM ht (by decide) (by decide) (by decide) (by simp) (fun Ga s0 sb hM => ?_)
  refine fun sa e1 => ?_
  replace hM := hM.ref 0 l2 (by simp) (by simp)
  rw [← e1] at hM
  clear e1
  have hM : Mk r G σ uAs [] [(0, l2)] Ga sa := hM
  have hn : gN Ga = gN G + 3 := hM.2.1
  have hzz : gZ Ga = gZ G + 240 := hM.2.2.1
  obtain ⟨a1, a2, a3⟩ : gT Ga (gN G + 1) = 106 ∧ gL Ga (gN G + 1) = 60 ∧ mR sa r 1 = gN G + 1 := hM.2.2.2.2.1 0 _ rfl
  have htr : gT Ga r = 10 := hM.kind ht
  unfold X_X9_init_37
  refine Lw.by (fun q => ∃ j, j ≤ 60 ∧ q.1 = nI j ∧ Lo (gN G + 1) 3 43 8 tAs (fun i => [(0, l1 * 100 + nI i)]) [] Ga sa j q.2.1 q.2.2) (fun q => 60 - q.1.toNatClampNeg) ?_ _ ⟨0, by decide, rfl, Lo.rf⟩
  rintro K ⟨l3, G2, s2⟩ ⟨j, hj, hl1, hL⟩ hK
  replace hl1 : l3 = nI j := hl1
  replace hL : Lo (gN G + 1) 3 43 8 tAs (fun i => [(0, l1 * 100 + nI i)]) [] Ga sa j G2 s2 := hL
  subst hl1
  have hn2 := hL.1
  have hz2 := hL.2.1
  have htr2 : gT G2 r = 10 := by rw [(hL.2.2.1 r (by omega)).1]; exact htr
  have hmr : ∀ s, mR s2 r s = mR sa r s := fun s => by rw [hL.2.2.2.2.1 r s (by omega), if_neg (by omega)]
  unfold X_X9_init_37_s
  refine ⟨fun hc => ?_, fun hc => ?_⟩
  · have hj12 : j = 60 := by
      have := (nI_lit_le (a := 60) rfl (by decide) (by omega)).mp hc
      omega
    subst hj12
    exact ⟨by omega, by omega, k _ _ ⟨Ga, sa, hM, hL⟩⟩
  · have hj2 : j < 60 := by
      have : ¬ 60 ≤ j := fun h => hc ((nI_lit_le (a := 60) rfl (by decide) (by omega)).mpr h)
      omega
    refine ⟨htr2, by omega, by omega, fun G4 e4 s5 e5 => ?_⟩
    subst e4 e5
    refine ⟨by rw [gN_A]; omega, by rw [gZ_A]; omega, by rw [gT_A, if_pos rfl], ?_⟩
    refine s_X7_init _ _ _ _ (by rw [gT_A, if_pos rfl]) (by omega) (by rw [gN_A]; omega) (fun G9 s10 hM2 => ?_)
    have hL3 := hL.step (z0 := 11) (by omega) rfl rfl hM2
    rw [hmr, a3]
    have e1 : gT G9 (gN G + 1) = 106 := by rw [(hL3.2.2.1 (gN G + 1) (by omega)).1]; exact a1
    have e2 : gL G9 (gN G + 1) = 60 := by rw [(hL3.2.2.1 (gN G + 1) (by omega)).2]; exact a2
    have e3 : gT G9 (gN G2 + 1) = 8 := by
      have := (hL3.2.2.2.2.2 j (by omega)).1
      rw [show gN G2 + 1 = gN Ga + 1 + 3 * j by omega]
      exact this
    refine ⟨e1, by rw [e2]; exact vp_in_nI hj2 (by decide), e3, fun s14 e14 => ?_⟩
    subst e14
    rw [nI_clamp (by omega)]
    refine hK _ ⟨j + 1, by omega, (nI_1 j), hL3⟩ ?_
    show 60 - (nI j + 1).toNatClampNeg < 60 - (nI j).toNatClampNeg
    rw [nI_1, nI_clamp (by omega), nI_clamp (by omega)]
    omega
/-! what a constructor leaves as it was, and how much it makes -/
def Kp (r m z : Nat) (G0 : Lay) (σ0 : Mem) (G : Lay) (σ : Mem) : Prop := gN G = gN G0 + m ∧ gZ G = gZ G0 + z ∧ (∀ a, a ≤ gN G0 → gT G a = gT G0 a ∧ gL G a = gL G0 a) ∧ (∀ a k, a ≤ gN G0 → a ≠ r → mI σ a k = mI σ0 a k ∧ mJ σ a k = mJ σ0 a k ∧ mR σ a k = mR σ0 a k)
theorem Mk.kp {r : Nat} {G0 : Lay} {σ0 : Mem} {as : List (Nat × Nat × Nat)} {ns : List (Nat × Int32)} {rs : List (Nat × Nat)} {G : Lay} {σ : Mem} (h : Mk r G0 σ0 as ns rs G σ) : Kp r as.length ((as.map (fun q => q.2.2)).sum) G0 σ0 G σ := ⟨h.2.1, h.2.2.1, h.2.2.2.1, h.2.2.2.2.2.2.2.2.2.2.1⟩
theorem Sch.kp {r : Nat} {G0 : Lay} {σ0 : Mem} {G : Lay} {σ : Mem} (h : Sch r G0 σ0 G σ) : Kp r 255 4464 G0 σ0 G σ := by
  obtain ⟨Ga, Gb, σa, σb, hM, hL, hL2⟩ := h
  have n1 : gN Ga = gN G0 + 3 := hM.2.1
  have z1 : gZ Ga = gZ G0 + 1704 := hM.2.2.1
  have n2 := hL.1
  have z2 := hL.2.1
  have n3 := hL2.1
  have z3 := hL2.2.1
  refine ⟨by omega, by omega, fun a ha => ?_, fun a k ha hr => ?_⟩
  · have e1 := hL2.2.2.1 a (by omega)
    have e2 := hL.2.2.1 a (by omega)
    have e3 := hM.2.2.2.1 a ha
    rw [e1.1, e1.2, e2.1, e2.2, e3.1, e3.2]
    exact ⟨rfl, rfl⟩
  · have e1 := hL2.2.2.2.1 a k (by omega)
    have e2 := hL.2.2.2.1 a k (by omega)
    have e3 := hM.2.2.2.2.2.2.2.2.2.2.1 a k ha hr
    have f1 := hL2.2.2.2.2.1 a k (by omega)
    have f2 := hL.2.2.2.2.1 a k (by omega)
    rw [if_neg (by omega)] at f1 f2
    rw [e1.1, e1.2, f1, e2.1, e2.2, f2]
    exact e3
theorem Unt.kp {r : Nat} {num : Int32} {rw : Nat} {G0 : Lay} {σ0 : Mem} {G : Lay} {σ : Mem} (h : Unt r num rw G0 σ0 G σ) : Kp r 183 2820 G0 σ0 G σ := by
  obtain ⟨Ga, σa, hM, hL⟩ := h
  have n1 : gN Ga = gN G0 + 3 := hM.2.1
  have z1 : gZ Ga = gZ G0 + 240 := hM.2.2.1
  have n2 := hL.1
  have z2 := hL.2.1
  refine ⟨by omega, by omega, fun a ha => ?_, fun a k ha hr => ?_⟩
  · have e2 := hL.2.2.1 a (by omega)
    have e3 := hM.2.2.2.1 a ha
    rw [e2.1, e2.2, e3.1, e3.2]
    exact ⟨rfl, rfl⟩
  · have e2 := hL.2.2.2.1 a k (by omega)
    have e3 := hM.2.2.2.2.2.2.2.2.2.2.1 a k ha hr
    have f2 := hL.2.2.2.2.1 a k (by omega)
    rw [if_neg (by omega)] at f2
    rw [e2.1, e2.2, f2]
    exact e3
