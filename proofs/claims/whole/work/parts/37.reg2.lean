/-- a piece: its cell r of kind t, zero when it was born; what its constructor did (R); since then it stays (but for the cells of ex); its cells end at nb -/
def Stg (ex : List Nat) (r t nb : Nat) (R : Lay → Mem → Lay → Mem → Prop) (G : Lay) (σ : Mem) : Prop := ∃ (Ga Gb : Lay) (σa σb : Mem), gN Ga = r ∧ gT Ga r = t ∧ (∀ k, mI σa r k = 0 ∧ mJ σa r k = 0 ∧ mR σa r k = 0) ∧ R Ga σa Gb σb ∧ Sb ex nb Gb σb G σ
theorem Stg.go {ex ex2 : List Nat} {r t nb m : Nat} {R : Lay → Mem → Lay → Mem → Prop} {G G1 : Lay} {σ σ1 : Mem} (h : Stg ex r t nb R G σ) (hs : Sb ex2 m G σ G1 σ1) (hn : nb ≤ m) (hx : ∀ a ∈ ex2, a ∈ ex ∨ nb < a) : Stg ex r t nb R G1 σ1 := by
  obtain ⟨Ga, Gb, σa, σb, h0, h1, h2, h3, h4⟩ := h
  refine ⟨Ga, Gb, σa, σb, h0, h1, h2, h3, fun a ha he => ?_⟩
  obtain ⟨⟨x1, x2⟩, x3⟩ := h4 a ha he
  obtain ⟨⟨y1, y2⟩, y3⟩ := hs a (by omega) (fun z => (hx a z).elim he (by omega))
  refine ⟨⟨y1.trans x1, y2.trans x2⟩, fun k => ?_⟩
  obtain ⟨u1, u2, u3⟩ := x3 k
  obtain ⟨v1, v2, v3⟩ := y3 k
  exact ⟨v1.trans u1, v2.trans u2, v3.trans u3⟩
theorem Stg.in {ex : List Nat} {r t nb z : Nat} {Rf : Nat → Lay → Mem → Lay → Mem → Prop} {G G9 : Lay} {σ s10 : Mem} (hr : gN G + 1 = r) (h : Rf (gN G + 1) (gA G t 0 z) (sZ σ (gN G + 1)) G9 s10) : Stg ex r t nb (Rf r) G9 s10 := by
  subst hr
  refine ⟨_, _, _, _, rfl, by rw [gT_A, if_pos rfl], fun k => ?_, h, Sb.rf⟩
  rw [mI_sZ, mJ_sZ, mR_sZ, if_pos rfl, if_pos rfl, if_pos rfl]
  exact ⟨rfl, rfl, rfl⟩
theorem Kp.rf {r : Nat} {G : Lay} {σ : Mem} : Kp r 0 0 G σ G σ := ⟨rfl, rfl, fun _ _ => ⟨rfl, rfl⟩, fun _ _ _ _ => ⟨rfl, rfl, rfl⟩⟩
theorem Cur.kp {z0 : Nat} {σ0 : Mem} {P : List (Nat × Nat)} {n z m zc r : Nat} {G G9 : Lay} {σ s10 : Mem} (h : Cur z0 σ0 P n z G σ) (h1 : 1 ≤ n) (hr : r ≠ 1) (hk : Kp r m zc G σ G9 s10) : Cur z0 σ0 P (n + m) (z + zc) G9 s10 ∧ Sb [r] n G σ G9 s10 := by
  obtain ⟨c1, c2, c3, c4, c5⟩ := h
  obtain ⟨k1, k2, k3, k4⟩ := hk
  rw [c1] at k1 k3 k4
  rw [c2] at k2
  refine ⟨⟨k1, by rw [k2]; omega, by rw [(k3 1 h1).1]; exact c3, fun q hq => ?_, fun k => ?_⟩, fun a ha he => ⟨k3 a ha, fun k => k4 a k ha (fun e => he (by simp [e]))⟩⟩
  · rw [(k4 1 q.1 h1 (fun e => hr e.symm)).2.2]
    exact c4 q hq
  · rw [(k4 1 k h1 (fun e => hr e.symm)).1]
    exact c5 k
/-- the register before its units come -/
def RegA (G0 : Lay) (σ0 : Mem) (G : Lay) (σ : Mem) : Prop := Cur (gZ G0) σ0 [(9, 532), (8, 531), (7, 275), (6, 13), (4, 11), (5, 8), (3, 7), (2, 3), (0, 2)] 532 40805 G σ ∧ (gT G 2 = 101 ∧ gL G 2 = 3000 ∧ ∀ k, mI σ 2 k = 0) ∧ Stg [1] 3 9 6 (fun Ga σa Gb σb => Mk 3 Ga σa [(0, 100, 3001), (1, 100, 3001), (2, 103, 3001)] [(6, (-1 : Int32))] [] Gb σb) G σ ∧ Stg [1] 7 1 7 (fun Ga σa Gb σb => Mk 7 Ga σa [] [] [(0, 3)] Gb σb) G σ ∧ Stg [1] 8 4 10 (fun Ga σa Gb σb => Mk 8 Ga σa [(2, 100, 6000), (3, 100, 64)] [] [] Gb σb) G σ ∧ Stg [1] 11 5 12 (fun Ga σa Gb σb => Mk 11 Ga σa [(3, 100, 64)] [] [(0, 3), (1, 8)] Gb σb) G σ ∧ Stg [1, 13] 14 7 269 (fun Ga σa Gb σb => Sch 14 Ga σa Gb σb) G σ ∧ Stg [1] 275 7 530 (fun Ga σa Gb σb => Sch 275 Ga σa Gb σb) G σ ∧ (gT G 13 = 6 ∧ mR σ 13 0 = 14 ∧ (∀ k, mI σ 13 k = 0) ∧ ∀ (j : Nat) (q : Nat × Nat × Nat), rwAs[j]? = some q → gT G (270 + j) = q.2.1 ∧ gL G (270 + j) = q.2.2 ∧ mR σ 13 q.1 = 270 + j ∧ ∀ k, mI σ (270 + j) k = 0) ∧ (gT G 531 = 100 ∧ gL G 531 = 12 ∧ ∀ k, mI σ 531 k = 0) ∧ (gT G 532 = 107 ∧ gL G 532 = 4)
def Ar (a c len : Nat) (G : Lay) (σ : Mem) : Prop := gT G a = c ∧ gL G a = len ∧ ∀ k, mI σ a k = 0
theorem Ar.go {a c len m : Nat} {ex : List Nat} {G G1 : Lay} {σ σ1 : Mem} (h : Ar a c len G σ) (hs : Sb ex m G σ G1 σ1) (hn : a ≤ m) (hx : a ∉ ex) : Ar a c len G1 σ1 := by
  obtain ⟨⟨y1, y2⟩, y3⟩ := hs a hn hx
  exact ⟨y1.trans h.1, y2.trans h.2.1, fun k => (y3 k).1.trans (h.2.2 k)⟩
def Rw (G : Lay) (σ : Mem) : Prop := gT G 13 = 6 ∧ mR σ 13 0 = 14 ∧ (∀ k, mI σ 13 k = 0) ∧ ∀ (j : Nat) (q : Nat × Nat × Nat), rwAs[j]? = some q → gT G (270 + j) = q.2.1 ∧ gL G (270 + j) = q.2.2 ∧ mR σ 13 q.1 = 270 + j ∧ ∀ k, mI σ (270 + j) k = 0
theorem Rw.go {m : Nat} {ex : List Nat} {G G1 : Lay} {σ σ1 : Mem} (h : Rw G σ) (hs : Sb ex m G σ G1 σ1) (hn : 274 ≤ m) (hx : ∀ a ∈ ex, a = 1 ∨ 274 < a) : Rw G1 σ1 := by
  obtain ⟨h1, h2, h3, h4⟩ := h
  have h13 := hs 13 (by omega) (fun z => by have := hx 13 z; omega)
  refine ⟨h13.1.1.trans h1, (h13.2 0).2.2.trans h2, fun k => (h13.2 k).1.trans (h3 k), fun j q hq => ?_⟩
  have hj : j < 5 := (List.getElem?_eq_some_iff.mp hq).1
  have e := hs (270 + j) (by omega) (fun z => by have := hx (270 + j) z; omega)
  obtain ⟨u1, u2, u3, u4⟩ := h4 j q hq
  exact ⟨e.1.1.trans u1, e.1.2.trans u2, (h13.2 q.1).2.2.trans u3, fun k => (e.2 k).1.trans (u4 k)⟩
set_option maxHeartbeats 4000000 in
theorem s_X11_a {Q : Lay → Mem → Prop} (G0 : Lay) (σ0 : Mem) (ht : gT G0 1 = 12) (hn : gN G0 = 1) (k : ∀ (G : Lay) (σ : Mem), RegA G0 σ0 G σ → X_X11_init_116 Q G0 1 0 G σ) : X_X11_init Q 1 G0 σ0 := by
  unfold X_X11_init X_X11_init_0
  have hC : Cur (gZ G0) σ0 [] 1 0 G0 σ0 := ⟨hn, rfl, ht, fun q h => by simp at h, fun _ => rfl⟩
  refine ⟨ht, by omega, by omega, fun G4 e4 s5 e5 => ⟨?_, fun s7 e7 => ?_⟩⟩
  · rw [e4, gT_A, if_neg (by omega)]
    exact ht
  subst e5
  obtain ⟨hC2, -, hTa⟩ := hC.arr (by decide) 101 3000 0 (by simp)
  rw [← e4, ← e7] at hC2 hTa
  clear e4 e7
  replace hC2 : Cur (gZ G0) σ0 [(0, 2)] 2 3000 G4 s7 := hC2
  replace hTa : Ar 2 101 3000 G4 s7 := hTa
  have n2 := hC2.1
  have z2 := hC2.2.1
  refine ⟨by omega, by omega, fun Gx ex sx e2 => ?_⟩
  subst ex e2
  refine ⟨by rw [gN_A]; omega, by rw [gZ_A]; omega, by rw [gT_A, if_pos rfl], ?_⟩
  refine s_X8_init _ _ _ (by rw [gT_A, if_pos rfl]) (by omega) (by rw [gN_A]; omega) (fun Ga saa hM => ?_)
  obtain ⟨hC9, hS9⟩ := hC2.ctor (by decide) hM.kp
  replace hC9 : Cur (gZ G0) σ0 [(0, 2)] 6 12010 Ga saa := hC9
  have hTok : Stg [1] 3 9 6 (fun Ga σa Gb σb => Mk 3 Ga σa [(0, 100, 3001), (1, 100, 3001), (2, 103, 3001)] [(6, (-1 : Int32))] [] Gb σb) Ga saa := Stg.in (Rf := fun r Ga σa Gb σb => Mk r Ga σa [(0, 100, 3001), (1, 100, 3001), (2, 103, 3001)] [(6, (-1 : Int32))] [] Gb σb) (by omega) hM
  replace hTa := hTa.go hS9 (by decide) (by simp)
  refine ⟨hC9.2.2.1, fun sa e1 => ?_⟩
  obtain ⟨hC3, hS9⟩ := hC9.put 2 (gN G4 + 1) (by simp)
  rw [← e1] at hC3 hS9
  clear e1
  rw [show gN G4 + 1 = 3 by omega] at hC3
  replace hTa := hTa.go hS9 (by decide) (by simp)
  replace hTok := hTok.go hS9 (by decide) (by simp)
  have nhC3 := hC3.1
  have zhC3 := hC3.2.1
  refine ⟨by omega, by omega, fun Gx ex sx e2 => ?_⟩
  subst ex e2
  have ea : mR (sZ sa (gN Ga + 1)) 1 2 = 3 := by rw [mR_sZ, if_neg (by omega)]; exact hC3.2.2.2.1 (2, 3) (by simp)
  rw [ea]
  refine ⟨by rw [gT_A, if_neg (by omega)]; exact hC3.2.2.1, ?_⟩
  refine ⟨by rw [gN_A]; omega, by rw [gZ_A]; omega, by rw [gT_A, if_pos rfl], ?_⟩
  refine s_X0_init _ _ _ _ (by rw [gT_A, if_pos rfl]) (by omega) (by rw [gN_A]; omega) (fun Gb sba hM => ?_)
  obtain ⟨hC9, hS9⟩ := hC3.ctor (by decide) hM.kp
  replace hC9 : Cur (gZ G0) σ0 [(2, 3), (0, 2)] 7 12013 Gb sba := hC9
  have hRea : Stg [1] 7 1 7 (fun Ga σa Gb σb => Mk 7 Ga σa [] [] [(0, 3)] Gb σb) Gb sba := Stg.in (Rf := fun r Ga σa Gb σb => Mk r Ga σa [] [] [(0, 3)] Gb σb) (by omega) hM
  replace hTa := hTa.go hS9 (by decide) (by simp)
  replace hTok := hTok.go hS9 (by decide) (by simp)
  refine ⟨hC9.2.2.1, fun sb e1 => ?_⟩
  obtain ⟨hC4, hS9⟩ := hC9.put 3 (gN Ga + 1) (by simp)
  rw [← e1] at hC4 hS9
  clear e1
  rw [show gN Ga + 1 = 7 by omega] at hC4
  replace hTa := hTa.go hS9 (by decide) (by simp)
  replace hTok := hTok.go hS9 (by decide) (by simp)
  replace hRea := hRea.go hS9 (by decide) (by simp)
  have nhC4 := hC4.1
  have zhC4 := hC4.2.1
  refine ⟨by omega, by omega, fun Gx ex sx e2 => ?_⟩
  subst ex e2
  refine ⟨by rw [gN_A]; omega, by rw [gZ_A]; omega, by rw [gT_A, if_pos rfl], ?_⟩
  refine s_X3_init _ _ _ (by rw [gT_A, if_pos rfl]) (by omega) (by rw [gN_A]; omega) (fun Gc sca hM => ?_)
  obtain ⟨hC9, hS9⟩ := hC4.ctor (by decide) hM.kp
  replace hC9 : Cur (gZ G0) σ0 [(3, 7), (2, 3), (0, 2)] 10 18081 Gc sca := hC9
  have hQue : Stg [1] 8 4 10 (fun Ga σa Gb σb => Mk 8 Ga σa [(2, 100, 6000), (3, 100, 64)] [] [] Gb σb) Gc sca := Stg.in (Rf := fun r Ga σa Gb σb => Mk r Ga σa [(2, 100, 6000), (3, 100, 64)] [] [] Gb σb) (by omega) hM
  replace hTa := hTa.go hS9 (by decide) (by simp)
  replace hTok := hTok.go hS9 (by decide) (by simp)
  replace hRea := hRea.go hS9 (by decide) (by simp)
  refine ⟨hC9.2.2.1, fun sc e1 => ?_⟩
  obtain ⟨hC5, hS9⟩ := hC9.put 5 (gN Gb + 1) (by simp)
  rw [← e1] at hC5 hS9
  clear e1
  rw [show gN Gb + 1 = 8 by omega] at hC5
  replace hTa := hTa.go hS9 (by decide) (by simp)
  replace hTok := hTok.go hS9 (by decide) (by simp)
  replace hRea := hRea.go hS9 (by decide) (by simp)
  replace hQue := hQue.go hS9 (by decide) (by simp)
  have nhC5 := hC5.1
  have zhC5 := hC5.2.1
  refine ⟨by omega, by omega, fun Gx ex sx e2 => ?_⟩
  subst ex e2
  have ea : mR (sZ sc (gN Gc + 1)) 1 2 = 3 := by rw [mR_sZ, if_neg (by omega)]; exact hC5.2.2.2.1 (2, 3) (by simp)
  rw [ea]
  have ea : mR (sZ sc (gN Gc + 1)) 1 5 = 8 := by rw [mR_sZ, if_neg (by omega)]; exact hC5.2.2.2.1 (5, 8) (by simp)
  rw [ea]
  refine ⟨by rw [gT_A, if_neg (by omega)]; exact hC5.2.2.1, ?_⟩
  refine ⟨by rw [gN_A]; omega, by rw [gZ_A]; omega, by rw [gT_A, if_pos rfl], ?_⟩
  refine s_X4_init _ _ _ _ _ (by rw [gT_A, if_pos rfl]) (by omega) (by rw [gN_A]; omega) (fun Gd sda hM => ?_)
  obtain ⟨hC9, hS9⟩ := hC5.ctor (by decide) hM.kp
  replace hC9 : Cur (gZ G0) σ0 [(5, 8), (3, 7), (2, 3), (0, 2)] 12 18151 Gd sda := hC9
  have hQRe : Stg [1] 11 5 12 (fun Ga σa Gb σb => Mk 11 Ga σa [(3, 100, 64)] [] [(0, 3), (1, 8)] Gb σb) Gd sda := Stg.in (Rf := fun r Ga σa Gb σb => Mk r Ga σa [(3, 100, 64)] [] [(0, 3), (1, 8)] Gb σb) (by omega) hM
  replace hTa := hTa.go hS9 (by decide) (by simp)
  replace hTok := hTok.go hS9 (by decide) (by simp)
  replace hRea := hRea.go hS9 (by decide) (by simp)
  replace hQue := hQue.go hS9 (by decide) (by simp)
  refine ⟨hC9.2.2.1, fun sd e1 => ?_⟩
  obtain ⟨hC6, hS9⟩ := hC9.put 4 (gN Gc + 1) (by simp)
  rw [← e1] at hC6 hS9
  clear e1
  rw [show gN Gc + 1 = 11 by omega] at hC6
  replace hTa := hTa.go hS9 (by decide) (by simp)
  replace hTok := hTok.go hS9 (by decide) (by simp)
  replace hRea := hRea.go hS9 (by decide) (by simp)
  replace hQue := hQue.go hS9 (by decide) (by simp)
  replace hQRe := hQRe.go hS9 (by decide) (by simp)
  have nhC6 := hC6.1
  have zhC6 := hC6.2.1
  refine ⟨by omega, by omega, fun Ge eGe se ese => ?_⟩
  obtain ⟨hC7, hS9⟩ := hC6.ctor (t := 6) (zo := 6) (by decide) Kp.rf
  rw [← eGe, ← ese] at hC7 hS9
  replace hC7 : Cur (gZ G0) σ0 [(4, 11), (5, 8), (3, 7), (2, 3), (0, 2)] 13 18157 Ge se := hC7
  have hR0 : gT Ge 13 = 6 ∧ (∀ k, mI se 13 k = 0) := by
    rw [eGe, ese]
    refine ⟨by rw [gT_A, if_pos (by omega)], fun k => ?_⟩
    rw [mI_sZ, if_pos (by omega)]
  clear eGe ese
  replace hTa := hTa.go hS9 (by decide) (by simp)
  replace hTok := hTok.go hS9 (by decide) (by simp)
  replace hRea := hRea.go hS9 (by decide) (by simp)
  replace hQue := hQue.go hS9 (by decide) (by simp)
  replace hQRe := hQRe.go hS9 (by decide) (by simp)
  have n7 := hC7.1
  have z7 := hC7.2.1
  refine ⟨by omega, by omega, fun Gx ex sx e2 => ?_⟩
  subst ex e2
  refine ⟨by rw [gN_A]; omega, by rw [gZ_A]; omega, by rw [gT_A, if_pos rfl], ?_⟩
  refine s_X6_init _ _ _ (by rw [gT_A, if_pos rfl]) (by omega) (by rw [gN_A]; omega) (fun Gf sfa hM => ?_)
  obtain ⟨hC9, hS9⟩ := hC7.ctor (by decide) hM.kp
  replace hC9 : Cur (gZ G0) σ0 [(4, 11), (5, 8), (3, 7), (2, 3), (0, 2)] 269 22627 Gf sfa := hC9
  have hSc1 : Stg [1, 13] 14 7 269 (fun Ga σa Gb σb => Sch 14 Ga σa Gb σb) Gf sfa := Stg.in (Rf := fun r Ga σa Gb σb => Sch r Ga σa Gb σb) (by omega) hM
  replace hTa := hTa.go hS9 (by decide) (by simp)
  replace hTok := hTok.go hS9 (by decide) (by simp)
  replace hRea := hRea.go hS9 (by decide) (by simp)
  replace hQue := hQue.go hS9 (by decide) (by simp)
  replace hQRe := hQRe.go hS9 (by decide) (by simp)
  have hR1 : gT Gf 13 = 6 ∧ (∀ k, mI sfa 13 k = 0) := by
    have e := hS9 13 (by omega) (by simp)
    exact ⟨e.1.1.trans hR0.1, fun k => (e.2 k).1.trans (hR0.2 k)⟩
  have n8 := hC9.1
  have z8 := hC9.2.1
  refine ⟨by omega, by omega, by rw [show gN Gd + 1 = 13 by omega]; exact hR1.1, ?_⟩
  rw [show gN Gd + 1 = 13 by omega, show gN Ge + 1 = 14 by omega]
  refine s_X5_init _ _ _ _ hR1.1 (by decide) (by omega) (fun Gg sga hM => ?_)
  obtain ⟨hC9, hS9⟩ := hC9.kp (by decide) (r := 13) (by decide) hM.kp
  replace hC9 : Cur (gZ G0) σ0 [(4, 11), (5, 8), (3, 7), (2, 3), (0, 2)] 274 36319 Gg sga := hC9
  have hRw : Rw Gg sga := by
    refine ⟨hM.kind hR1.1, hM.2.2.2.2.2.2.2.1 (0, 14) (by simp), fun k => (hM.2.2.2.2.2.2.1 k (by simp)).trans (hR1.2 k), fun j q hq => ?_⟩
    have e := hM.2.2.2.2.1 j q hq
    rw [n8] at e
    have hj : j < 5 := (List.getElem?_eq_some_iff.mp hq).1
    have e2 := hM.2.1
    refine ⟨e.1, e.2.1, e.2.2, fun k => (hM.2.2.2.2.2.2.2.2.2.2.2 (270 + j) k (by omega) ?_).1⟩
    have e3 : gN Gg = gN Gf + 5 := e2
    omega
  replace hTa := hTa.go hS9 (by decide) (by simp)
  replace hTok := hTok.go hS9 (by decide) (by simp)
  replace hRea := hRea.go hS9 (by decide) (by simp)
  replace hQue := hQue.go hS9 (by decide) (by simp)
  replace hQRe := hQRe.go hS9 (by decide) (by simp)
  replace hSc1 := hSc1.go hS9 (by decide) (by simp)
  refine ⟨hC9.2.2.1, fun sg e1 => ?_⟩
  obtain ⟨hC10, hS9⟩ := hC9.put 6 (13) (by simp)
  rw [← e1] at hC10 hS9
  clear e1
  rw [show 13 = 13 by omega] at hC10
  replace hTa := hTa.go hS9 (by decide) (by simp)
  replace hTok := hTok.go hS9 (by decide) (by simp)
  replace hRea := hRea.go hS9 (by decide) (by simp)
  replace hQue := hQue.go hS9 (by decide) (by simp)
  replace hQRe := hQRe.go hS9 (by decide) (by simp)
  replace hSc1 := hSc1.go hS9 (by decide) (by simp)
  replace hRw := hRw.go hS9 (by decide) (by simp)
  have nhC10 := hC10.1
  have zhC10 := hC10.2.1
  refine ⟨by omega, by omega, fun Gx ex sx e2 => ?_⟩
  subst ex e2
  refine ⟨by rw [gN_A]; omega, by rw [gZ_A]; omega, by rw [gT_A, if_pos rfl], ?_⟩
  refine s_X6_init _ _ _ (by rw [gT_A, if_pos rfl]) (by omega) (by rw [gN_A]; omega) (fun Gh sha hM => ?_)
  obtain ⟨hC9, hS9⟩ := hC10.ctor (by decide) hM.kp
  replace hC9 : Cur (gZ G0) σ0 [(6, 13), (4, 11), (5, 8), (3, 7), (2, 3), (0, 2)] 530 40789 Gh sha := hC9
  have hSc2 : Stg [1] 275 7 530 (fun Ga σa Gb σb => Sch 275 Ga σa Gb σb) Gh sha := Stg.in (Rf := fun r Ga σa Gb σb => Sch r Ga σa Gb σb) (by omega) hM
  replace hTa := hTa.go hS9 (by decide) (by simp)
  replace hTok := hTok.go hS9 (by decide) (by simp)
  replace hRea := hRea.go hS9 (by decide) (by simp)
  replace hQue := hQue.go hS9 (by decide) (by simp)
  replace hQRe := hQRe.go hS9 (by decide) (by simp)
  replace hSc1 := hSc1.go hS9 (by decide) (by simp)
  replace hRw := hRw.go hS9 (by decide) (by simp)
  refine ⟨hC9.2.2.1, fun sh e1 => ?_⟩
  obtain ⟨hC11, hS9⟩ := hC9.put 7 (gN Gg + 1) (by simp)
  rw [← e1] at hC11 hS9
  clear e1
  rw [show gN Gg + 1 = 275 by omega] at hC11
  replace hTa := hTa.go hS9 (by decide) (by simp)
  replace hTok := hTok.go hS9 (by decide) (by simp)
  replace hRea := hRea.go hS9 (by decide) (by simp)
  replace hQue := hQue.go hS9 (by decide) (by simp)
  replace hQRe := hQRe.go hS9 (by decide) (by simp)
  replace hSc1 := hSc1.go hS9 (by decide) (by simp)
  replace hRw := hRw.go hS9 (by decide) (by simp)
  replace hSc2 := hSc2.go hS9 (by decide) (by simp)
  have nhC11 := hC11.1
  have zhC11 := hC11.2.1
  refine ⟨by omega, by omega, fun Gi e4 s5 e5 => ⟨?_, fun si e7 => ?_⟩⟩
  · rw [e4, gT_A, if_neg (by omega)]
    exact hC11.2.2.1
  subst e5
  obtain ⟨hC12, hS9, hLa⟩ := hC11.arr (by decide) 100 12 8 (by simp)
  rw [← e4, ← e7] at hC12 hS9 hLa
  clear e4 e7
  replace hC12 : Cur (gZ G0) σ0 [(8, 531), (7, 275), (6, 13), (4, 11), (5, 8), (3, 7), (2, 3), (0, 2)] 531 40801 Gi si := hC12
  replace hLa : Ar 531 100 12 Gi si := hLa
  replace hTa := hTa.go hS9 (by decide) (by simp)
  replace hTok := hTok.go hS9 (by decide) (by simp)
  replace hRea := hRea.go hS9 (by decide) (by simp)
  replace hQue := hQue.go hS9 (by decide) (by simp)
  replace hQRe := hQRe.go hS9 (by decide) (by simp)
  replace hSc1 := hSc1.go hS9 (by decide) (by simp)
  replace hRw := hRw.go hS9 (by decide) (by simp)
  replace hSc2 := hSc2.go hS9 (by decide) (by simp)
  have nhC12 := hC12.1
  have zhC12 := hC12.2.1
  refine ⟨by omega, by omega, fun Gj e4 s5 e5 => ⟨?_, fun sj e7 => ?_⟩⟩
  · rw [e4, gT_A, if_neg (by omega)]
    exact hC12.2.2.1
  subst e5
  obtain ⟨hC13, hS9, hUn⟩ := hC12.arr (by decide) 107 4 9 (by simp)
  rw [← e4, ← e7] at hC13 hS9 hUn
  clear e4 e7
  replace hC13 : Cur (gZ G0) σ0 [(9, 532), (8, 531), (7, 275), (6, 13), (4, 11), (5, 8), (3, 7), (2, 3), (0, 2)] 532 40805 Gj sj := hC13
  replace hUn : Ar 532 107 4 Gj sj := hUn
  replace hTa := hTa.go hS9 (by decide) (by simp)
  replace hTok := hTok.go hS9 (by decide) (by simp)
  replace hRea := hRea.go hS9 (by decide) (by simp)
  replace hQue := hQue.go hS9 (by decide) (by simp)
  replace hQRe := hQRe.go hS9 (by decide) (by simp)
  replace hSc1 := hSc1.go hS9 (by decide) (by simp)
  replace hRw := hRw.go hS9 (by decide) (by simp)
  replace hSc2 := hSc2.go hS9 (by decide) (by simp)
  replace hLa := hLa.go hS9 (by decide) (by simp)
  have nhC13 := hC13.1
  have zhC13 := hC13.2.1
  exact k Gj sj ⟨hC13, hTa, hTok, hRea, hQue, hQRe, hSc1, hSc2, hRw, hLa, hUn.1, hUn.2.1⟩
