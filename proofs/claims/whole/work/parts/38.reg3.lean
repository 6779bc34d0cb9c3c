/-- unit u of the register -/
def UnF (u : Nat) (G : Lay) (σ : Mem) : Prop := Stg [1, 532] (533 + 184 * u) 10 (716 + 184 * u) (fun Ga σa Gb σb => Unt (533 + 184 * u) (nI u) 13 Ga σa Gb σb) G σ
/-- what the register has besides its units -/
def RegB (G : Lay) (σ : Mem) : Prop := (gT G 2 = 101 ∧ gL G 2 = 3000 ∧ ∀ k, mI σ 2 k = 0) ∧ Stg [1] 3 9 6 (fun Ga σa Gb σb => Mk 3 Ga σa [(0, 100, 3001), (1, 100, 3001), (2, 103, 3001)] [(6, (-1 : Int32))] [] Gb σb) G σ ∧ Stg [1] 7 1 7 (fun Ga σa Gb σb => Mk 7 Ga σa [] [] [(0, 3)] Gb σb) G σ ∧ Stg [1] 8 4 10 (fun Ga σa Gb σb => Mk 8 Ga σa [(2, 100, 6000), (3, 100, 64)] [] [] Gb σb) G σ ∧ Stg [1] 11 5 12 (fun Ga σa Gb σb => Mk 11 Ga σa [(3, 100, 64)] [] [(0, 3), (1, 8)] Gb σb) G σ ∧ Stg [1, 13] 14 7 269 (fun Ga σa Gb σb => Sch 14 Ga σa Gb σb) G σ ∧ Stg [1] 275 7 530 (fun Ga σa Gb σb => Sch 275 Ga σa Gb σb) G σ ∧ (gT G 13 = 6 ∧ mR σ 13 0 = 14 ∧ (∀ k, mI σ 13 k = 0) ∧ ∀ (j : Nat) (q : Nat × Nat × Nat), rwAs[j]? = some q → gT G (270 + j) = q.2.1 ∧ gL G (270 + j) = q.2.2 ∧ mR σ 13 q.1 = 270 + j ∧ ∀ k, mI σ (270 + j) k = 0) ∧ (gT G 531 = 100 ∧ gL G 531 = 12 ∧ ∀ k, mI σ 531 k = 0)
/-- the register, all made -/
def RegF (G0 : Lay) (σ0 : Mem) (G : Lay) (σ : Mem) : Prop := Cur (gZ G0) σ0 [(11, 1281), (10, 1269), (9, 532), (8, 531), (7, 275), (6, 13), (4, 11), (5, 8), (3, 7), (2, 3), (0, 2)] 1281 66429 G σ ∧ RegB G σ ∧ (gT G 532 = 107 ∧ gL G 532 = 4 ∧ ∀ u, u < 4 → mR σ 532 u = 533 + 184 * u) ∧ (∀ u, u < 4 → UnF u G σ) ∧ Stg [1] 1269 11 1280 (fun Ga σa Gb σb => Wrt 1269 13 Ga σa Gb σb) G σ ∧ Ar 1281 100 60 G σ
theorem RegB.go {m : Nat} {ex : List Nat} {G G1 : Lay} {σ σ1 : Mem} (h : RegB G σ) (hs : Sb ex m G σ G1 σ1) (hn : 531 ≤ m) (hx : ∀ a ∈ ex, a = 1 ∨ 531 < a) : RegB G1 σ1 := by
  obtain ⟨hTa, hTok, hRea, hQue, hQRe, hSc1, hSc2, hRw, hLa⟩ := h
  have hg : ∀ nb : Nat, nb ≤ 531 → ∀ a ∈ ex, a ∈ ([1] : List Nat) ∨ nb < a := fun nb hnb a ha => by
    rcases hx a ha with h | h
    · exact Or.inl (by simp [h])
    · exact Or.inr (by omega)
  refine ⟨Ar.go hTa hs (by omega) (fun z => by have := hx 2 z; omega), hTok.go hs (by omega) (hg _ (by decide)), hRea.go hs (by omega) (hg _ (by decide)), hQue.go hs (by omega) (hg _ (by decide)), hQRe.go hs (by omega) (hg _ (by decide)), hSc1.go hs (by omega) (fun a ha => ?_), hSc2.go hs (by omega) (hg _ (by decide)), Rw.go hRw hs (by omega) (fun a ha => by have := hx a ha; omega), Ar.go hLa hs (by omega) (fun z => by have := hx 531 z; omega)⟩
  rcases hx a ha with h | h
  · exact Or.inl (by simp [h])
  · exact Or.inr (by omega)
set_option maxHeartbeats 4000000 in
theorem s_X11_init {Q : Lay → Mem → Prop} (G0 : Lay) (σ0 : Mem) (ht : gT G0 1 = 12) (hn : gN G0 = 1) (k : ∀ (G : Lay) (σ : Mem), RegF G0 σ0 G σ → Q G σ) : X_X11_init Q 1 G0 σ0 := by
  refine s_X11_a G0 σ0 ht hn (fun Ga sa hA => ?_)
  obtain ⟨hC, hTa, hTok, hRea, hQue, hQRe, hSc1, hSc2, hRw, hLa, hU1, hU2⟩ := hA
  have hB : RegB Ga sa := ⟨hTa, hTok, hRea, hQue, hQRe, hSc1, hSc2, hRw, hLa⟩
  unfold X_X11_init_116
  refine Lw.by (fun q => ∃ j, j ≤ 4 ∧ q.1 = nI j ∧ Cur (gZ G0) σ0 [(9, 532), (8, 531), (7, 275), (6, 13), (4, 11), (5, 8), (3, 7), (2, 3), (0, 2)] (532 + 184 * j) (40805 + 2828 * j) q.2.1 q.2.2 ∧ RegB q.2.1 q.2.2 ∧ (gT q.2.1 532 = 107 ∧ gL q.2.1 532 = 4 ∧ ∀ u, u < j → mR q.2.2 532 u = 533 + 184 * u) ∧ (∀ u, u < j → UnF u q.2.1 q.2.2)) (fun q => 4 - q.1.toNatClampNeg) ?_ _ ⟨0, by decide, rfl, hC, hB, ⟨hU1, hU2, fun u h => by omega⟩, fun u h => by omega⟩
  clear hC hTa hTok hRea hQue hQRe hSc1 hSc2 hRw hLa hU1 hU2 hB
  rintro K ⟨l1, G, σ⟩ ⟨j, hj, hl1, hC, hB, hU, hUs⟩ hK
  replace hl1 : l1 = nI j := hl1
  subst hl1
  replace hC : Cur (gZ G0) σ0 [(9, 532), (8, 531), (7, 275), (6, 13), (4, 11), (5, 8), (3, 7), (2, 3), (0, 2)] (532 + 184 * j) (40805 + 2828 * j) G σ := hC
  replace hB : RegB G σ := hB
  replace hU : gT G 532 = 107 ∧ gL G 532 = 4 ∧ ∀ u, u < j → mR σ 532 u = 533 + 184 * u := hU
  replace hUs : ∀ u, u < j → UnF u G σ := hUs
  have n1 := hC.1
  have z1 := hC.2.1
  have hrw : ∀ s : Mem, s = sZ σ (gN G + 1) → mR s 1 6 = 13 := fun s e => by
    rw [e, mR_sZ, if_neg (by omega)]
    exact hC.2.2.2.1 (6, 13) (by simp)
  have ha : mR σ 1 9 = 532 := hC.2.2.2.1 (9, 532) (by simp)
  unfold X_X11_init_116_s
  refine ⟨fun hc => ?_, fun hc => ?_⟩
  · have hj4 : j = 4 := by
      have := (nI_lit_le (a := 4) rfl (by decide) (by omega)).mp hc
      omega
    subst hj4
    refine ⟨by omega, by omega, fun Gx e1 sx e2 => ?_⟩
    have e3 := hrw sx e2
    rw [e3]
    subst e1 e2
    refine ⟨by rw [gT_A, if_neg (by omega)]; exact hC.2.2.1, by rw [gN_A]; omega, by rw [gZ_A]; omega, by rw [gT_A, if_pos rfl], ?_⟩
    have h13 : gT G 13 = 6 := hB.2.2.2.2.2.2.2.1.1
    refine s_X10_init _ _ _ _ (by rw [gT_A, if_pos rfl]) (by omega) (by rw [gN_A]; omega) (by rw [gT_A, if_neg (by omega)]; exact h13) (by rw [gN_A]; omega) (fun G9 s10 hM => ?_)
    obtain ⟨hC9, hS9⟩ := hC.ctor (by decide) hM.kp
    replace hC9 : Cur (gZ G0) σ0 [(9, 532), (8, 531), (7, 275), (6, 13), (4, 11), (5, 8), (3, 7), (2, 3), (0, 2)] 1280 66369 G9 s10 := hC9
    have hWr : Stg [1] 1269 11 1280 (fun Ga σa Gb σb => Wrt 1269 13 Ga σa Gb σb) G9 s10 := Stg.in (Rf := fun r Ga σa Gb σb => Wrt r 13 Ga σa Gb σb) (by omega) hM
    have m9 := hC9.1
    have y9 := hC9.2.1
    refine ⟨hC9.2.2.1, fun s12 e12 => ?_⟩
    obtain ⟨hC10, hS10⟩ := hC9.put 10 (gN G + 1) (by simp)
    rw [← e12] at hC10 hS10
    clear e12
    rw [show gN G + 1 = 1269 by omega] at hC10
    refine ⟨by omega, by omega, fun G15 e15 s16 e16 => ⟨?_, fun s18 e18 => ⟨?_, ?_, ?_⟩⟩⟩
    · rw [e15, gT_A, if_neg (by omega)]
      exact hC10.2.2.1
    · rw [e15, gN_A]; omega
    · rw [e15, gZ_A]; omega
    · subst e16
      obtain ⟨hC11, hS11, hFo⟩ := hC10.arr (by decide) 100 60 11 (by simp)
      rw [← e15, ← e18] at hC11 hS11 hFo
      replace hC11 : Cur (gZ G0) σ0 [(11, 1281), (10, 1269), (9, 532), (8, 531), (7, 275), (6, 13), (4, 11), (5, 8), (3, 7), (2, 3), (0, 2)] 1281 66429 G15 s18 := hC11
      refine k G15 s18 ⟨hC11, ((hB.go hS9 (by omega) (by simp)).go hS10 (by omega) (by simp)).go hS11 (by omega) (by simp), ?_, fun u hu => ?_, (hWr.go hS10 (by omega) (by simp)).go hS11 (by omega) (by simp), hFo⟩
      · have x1 := hS9 532 (by omega) (by simp)
        have x2 := hS10 532 (by omega) (by simp)
        have x3 := hS11 532 (by omega) (by simp)
        refine ⟨?_, ?_, fun u hu => ?_⟩
        · rw [x3.1.1, x2.1.1, x1.1.1]; exact hU.1
        · rw [x3.1.2, x2.1.2, x1.1.2]; exact hU.2.1
        · rw [(x3.2 u).2.2, (x2.2 u).2.2, (x1.2 u).2.2]; exact hU.2.2 u hu
      · exact (((hUs u hu).go hS9 (by omega) (by simp)).go hS10 (by omega) (by simp)).go hS11 (by omega) (by simp)
  · have hj2 : j < 4 := by
      have : ¬ 4 ≤ j := fun h => hc ((nI_lit_le (a := 4) rfl (by decide) (by omega)).mpr h)
      omega
    refine ⟨hC.2.2.1, by omega, by omega, fun Gx e1 sx e2 => ?_⟩
    have e3 := hrw sx e2
    rw [e3, ha]
    subst e1 e2
    refine ⟨by rw [gT_A, if_neg (by omega)]; exact hC.2.2.1, by rw [gN_A]; omega, by rw [gZ_A]; omega, by rw [gT_A, if_pos rfl], ?_⟩
    refine s_X9_init _ _ _ _ _ (by rw [gT_A, if_pos rfl]) (by omega) (by rw [gN_A]; omega) (fun G9 s10 hM => ?_)
    obtain ⟨hC9, hS9⟩ := hC.ctor (by omega) hM.kp
    have hNew : Stg [1, 532] (533 + 184 * j) 10 (716 + 184 * j) (fun Ga σa Gb σb => Unt (533 + 184 * j) (nI j) 13 Ga σa Gb σb) G9 s10 := Stg.in (Rf := fun r Ga σa Gb σb => Unt r (nI j) 13 Ga σa Gb σb) (by omega) hM
    have x1 := hS9 532 (by omega) (by simp)
    have xn : gT G9 (gN G + 1) = 10 := by
      have := (hM.kp.2.2.1 (gN G + 1) (by rw [gN_A]; omega)).1
      rw [this, gT_A, if_pos rfl]
    refine ⟨by rw [x1.1.1]; exact hU.1, by rw [x1.1.2, hU.2.1]; exact vp_in_nI hj2 (by decide), xn, fun s33 e33 => ?_⟩
    subst e33
    rw [nI_clamp (by omega)]
    have hS10 : Sb [532] (gN G9) G9 s10 G9 (sR s10 532 j (gN G + 1)) := fun a ha he => ⟨⟨rfl, rfl⟩, fun k => by
      have he1 : a ≠ 532 := fun e => he (by simp [e])
      rw [mI_sR, mJ_sR, mR_sR, if_neg (by omega)]
      exact ⟨rfl, rfl, rfl⟩⟩
    have m9 := hC9.1
    refine hK _ ⟨j + 1, by omega, nI_1 j, ?_, (hB.go hS9 (by omega) (by simp)).go hS10 (by omega) (by simp), ⟨?_, ?_, fun u hu => ?_⟩, fun u hu => ?_⟩ ?_
    · obtain ⟨c1, c2, c3, c4, c5⟩ := hC9
      refine ⟨c1.trans (by omega), c2.trans (by omega), c3, fun q hq => ?_, fun k => ?_⟩
      · show mR (sR s10 532 j (gN G + 1)) 1 q.1 = _
        rw [mR_sR, if_neg (by omega)]
        exact c4 q hq
      · show mI (sR s10 532 j (gN G + 1)) 1 k = _
        rw [mI_sR]
        exact c5 k
    · show gT G9 532 = 107
      rw [x1.1.1]; exact hU.1
    · show gL G9 532 = 4
      rw [x1.1.2]; exact hU.2.1
    · show mR (sR s10 532 j (gN G + 1)) 532 u = _
      rw [mR_sR]
      by_cases huj : u = j
      · subst huj
        rw [if_pos ⟨rfl, rfl⟩]
        omega
      · rw [if_neg (by omega), (x1.2 u).2.2]
        exact hU.2.2 u (by omega)
    · show UnF u G9 (sR s10 532 j (gN G + 1))
      by_cases huj : u = j
      · subst huj
        exact hNew.go hS10 (by omega) (by simp)
      · have hlt : u < j := by omega
        exact ((hUs u hlt).go hS9 (by omega) (by simp)).go hS10 (by omega) (by simp)
    · show 4 - (nI j + 1).toNatClampNeg < 4 - (nI j).toNatClampNeg
      rw [nI_1, nI_clamp (by omega), nI_clamp (by omega)]
      omega
