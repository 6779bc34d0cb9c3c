/-! the two fresh objects stand in the relation -/
section INIT
variable {G : Lay} {σ : Mem}
theorem sch_ly {ex : List Nat} {r nb : Nat} (h : Stg ex r 7 nb (fun Ga σa Gb σb => Sch r Ga σa Gb σb) G σ) (hnb : nb = r + 255) (hex : ∀ a, r ≤ a → a ≤ nb → a ∉ ex) : LyS G r ∧ StS r σ ∧ ∀ k, mI σ r k = 0 := by
  obtain ⟨e1, e2, e3, e4, e5⟩ := Stg.sch h hnb hex
  have a0 := e2 0 _ rfl
  have a1 := e2 1 _ rfl
  have a2 := e2 2 _ rfl
  refine ⟨⟨⟨e1, a0.1, a0.2.1, a1.1, a1.2.1, a2.1, a2.2.1⟩, fun j hj => ?_, fun j hj => (e5 j hj).2⟩, ⟨⟨a0.2.2, a1.2.2, a2.2.2⟩, fun j hj => ?_, fun j hj => (e5 j hj).1⟩, e3⟩
  all_goals
    obtain ⟨k1, k2, k3⟩ := e4 j hj
    have q0 := k3 0 _ rfl
    have q1 := k3 1 _ rfl
    have q2 := k3 2 _ rfl
    have q3 := k3 3 _ rfl
    rw [show r + 5 + 5 * j + 0 = r + 5 + 5 * j from rfl] at q0
    rw [show r + 5 + 5 * j + 1 = r + 6 + 5 * j by omega] at q1
    rw [show r + 5 + 5 * j + 2 = r + 7 + 5 * j by omega] at q2
    rw [show r + 5 + 5 * j + 3 = r + 8 + 5 * j by omega] at q3
  · exact ⟨k2, q0.1, q0.2.1, q1.1, q1.2.1, q2.1, q2.2.1, q3.1, q3.2.1⟩
  · exact ⟨k1, q0.2.2, q1.2.2, q2.2.2, q3.2.2⟩
theorem unt_ly {u : Nat} (h : UnF u G σ) (hu : u < 4) : (gT G (533 + 184 * u) = 10 ∧ gT G (534 + 184 * u) = 106 ∧ gL G (534 + 184 * u) = 60 ∧ gT G (535 + 184 * u) = 106 ∧ gL G (535 + 184 * u) = 60 ∧ gT G (536 + 184 * u) = 100 ∧ gL G (536 + 184 * u) = 120) ∧ (∀ k, k < 60 → gT G (537 + 184 * u + 3 * k) = 8 ∧ gT G (538 + 184 * u + 3 * k) = 100 ∧ gL G (538 + 184 * u + 3 * k) = 16 ∧ gT G (539 + 184 * u + 3 * k) = 100 ∧ gL G (539 + 184 * u + 3 * k) = 16) ∧
    (mR σ (533 + 184 * u) 0 = 13 ∧ mR σ (533 + 184 * u) 1 = 534 + 184 * u ∧ mR σ (533 + 184 * u) 2 = 535 + 184 * u ∧ mR σ (533 + 184 * u) 3 = 536 + 184 * u) ∧ (∀ k, k < 60 → mR σ (534 + 184 * u) k = 537 + 184 * u + 3 * k ∧ mR σ (537 + 184 * u + 3 * k) 6 = 538 + 184 * u + 3 * k ∧ mR σ (537 + 184 * u + 3 * k) 7 = 539 + 184 * u + 3 * k) ∧
    (∀ k, mI σ (533 + 184 * u) k = 0) ∧ ∀ k, k < 60 → mI σ (537 + 184 * u + 3 * k) 0 = nI (100 * u + k) := by
  obtain ⟨e1, e2, e3, e4, e5⟩ := Stg.unt h (by omega) (fun a h1 h2 => by simp; omega)
  have a0 := e2 0 _ rfl
  have a1 := e2 1 _ rfl
  have a2 := e2 2 _ rfl
  rw [show 533 + 184 * u + 1 + 0 = 534 + 184 * u by omega] at a0
  rw [show 533 + 184 * u + 1 + 1 = 535 + 184 * u by omega] at a1
  rw [show 533 + 184 * u + 1 + 2 = 536 + 184 * u by omega] at a2
  refine ⟨⟨e1, a0.1, a0.2.1, a1.1, a1.2.1, a2.1, a2.2.1⟩, fun k hk => ?_, ⟨e4, a0.2.2, a1.2.2, a2.2.2⟩, fun k hk => ?_, e3, fun k hk => ?_⟩
  all_goals
    obtain ⟨k1, k2, k3, -, k5⟩ := e5 k hk
    have q0 := k5 0 _ rfl
    have q1 := k5 1 _ rfl
    rw [show 533 + 184 * u + 1 = 534 + 184 * u by omega] at k1
    rw [show 533 + 184 * u + 4 + 3 * k = 537 + 184 * u + 3 * k by omega] at k1 k2 k3 q0 q1
    rw [show 533 + 184 * u + 5 + 3 * k + 0 = 538 + 184 * u + 3 * k by omega] at q0
    rw [show 533 + 184 * u + 5 + 3 * k + 1 = 539 + 184 * u + 3 * k by omega] at q1
  · exact ⟨k2, q0.1, q0.2.1, q1.1, q1.2.1⟩
  · exact ⟨k1, q0.2.2, q1.2.2⟩
  · rw [k3, show (100 : Int32) = nI 100 from rfl, pk_mul, nI_add, Nat.mul_comm]
set_option maxRecDepth 4000 in
theorem Fresh.ly (h : Fresh G σ) : Ly G ∧ Rel 0 σ σ := by
  obtain ⟨hP, hF, h13⟩ := h
  obtain ⟨hlm, hm⟩ := LyM.of (RI.of hF h13)
  obtain ⟨z1, z2, z3⟩ := hF.zero
  have tk := hP.tok
  have re := hP.rea
  have qu := hP.que
  have qr := hP.qre
  obtain ⟨p1, p2, p3, pB, pU, pUn, pW, pA⟩ := hP
  obtain ⟨-, -, -, -, -, s14, s275, br, b5⟩ := id pB
  obtain ⟨l14, t14, c14⟩ := sch_ly s14 rfl (fun a h1 h2 => by simp; omega)
  obtain ⟨l275, t275, c275⟩ := sch_ly s275 rfl (fun a h1 h2 => by simp; omega)
  obtain ⟨w1, w2, w3, w4, w5, w6, w7, w8⟩ := Stg.wrt pW rfl (fun a h1 h2 => by simp; omega)
  have un := fun u hu => unt_ly (pUn u hu) hu
  have b0 := br.2.2.2 0 _ rfl
  have v0 := w2 0 _ rfl
  have x0 := w8 0 _ rfl
  have b1 := br.2.2.2 1 _ rfl
  have v1 := w2 1 _ rfl
  have x1 := w8 1 _ rfl
  have b2 := br.2.2.2 2 _ rfl
  have v2 := w2 2 _ rfl
  have x2 := w8 2 _ rfl
  have b3 := br.2.2.2 3 _ rfl
  have v3 := w2 3 _ rfl
  have x3 := w8 3 _ rfl
  have b4 := br.2.2.2 4 _ rfl
  have v4 := w2 4 _ rfl
  have x4 := w8 4 _ rfl
  have hL : LyC G := ⟨⟨p1, pB.1.1, pB.1.2.1, tk.1, tk.2.1.1, tk.2.1.2.1, tk.2.2.1.1, tk.2.2.1.2.1, tk.2.2.2.1.1, tk.2.2.2.1.2.1, re.1, qu.1, qu.2.1.1, qu.2.1.2.1, qu.2.2.1.1, qu.2.2.1.2.1, qr.1, qr.2.1.1, qr.2.1.2.1, br.1, b0.1, b0.2.1, b1.1, b1.2.1, b2.1, b2.2.1, b3.1, b3.2.1, b4.1, b4.2.1, b5.1, b5.2.1, pU.1, pU.2.1, w1, v0.1, v0.2.1, v1.1, v1.2.1, v2.1, v2.2.1, v3.1, v3.2.1, v4.1, v4.2.1, w7, x0.1, x0.2.1, x1.1, x1.2.1, x2.1, x2.2.1, x3.1, x3.2.1, x4.1, x4.2.1, pA.1, pA.2.1⟩, fun u hu => (un u hu).1, fun u k hu hk => (un u hu).2.1 k hk⟩
  have hC : StC σ := ⟨⟨p2 (0, 2) (by simp), p2 (2, 3) (by simp), p2 (3, 7) (by simp), p2 (4, 11) (by simp), p2 (5, 8) (by simp), p2 (6, 13) (by simp), p2 (8, 531) (by simp), p2 (9, 532) (by simp), p2 (10, 1269) (by simp), p2 (11, 1281) (by simp), tk.2.1.2.2, tk.2.2.1.2.2, tk.2.2.2.1.2.2, re.2, qu.2.1.2.2, qu.2.2.1.2.2, qr.2.2.1, qr.2.2.2, qr.2.1.2.2, b0.2.2.1, b1.2.2.1, b2.2.2.1, b3.2.2.1, b4.2.2.1, w5, w6, v0.2.2, v1.2.2, v2.2.2, v3.2.2, v4.2.2, x0.2.2, x1.2.2, x2.2.2, x3.2.2, x4.2.2⟩, fun u hu => ⟨pU.2.2 u hu, (un u hu).2.2.1⟩, fun u k hu hk => (un u hu).2.2.2.1 k hk, t14, t275⟩
  have hN : NumC σ := fun u k hu hk => (un u hu).2.2.2.2.2 k hk
  have y64 := z1 64 (by decide)
  have y54 := z1 54 (by decide)
  have y55 := z2 (55, -1) (by simp)
  have y65 := z2 (65, -1) (by simp)
  have y66 := z2 (66, -1) (by simp)
  have y67 := z2 (67, -1) (by simp)
  have y68 := z2 (68, -1) (by simp)
  refine ⟨⟨hL, l14, l275, hlm⟩, 14, 0, fun _ => 0, fun _ => 0, fun _ => 0, fun _ => 0, fun _ => 0, 0, fun _ => 0, ⟨hC, hm, hN⟩, ?_, ?_, ?_, ?_, ?_, ?_, ?_, ?_, ?_, ?_, ?_⟩
  · exact ⟨0, by decide, p3 1, z1 1 (by decide), fun k hk => by omega⟩
  · exact ⟨tk.2.2.2.2.2.2.2.trans y54.symm, tk.2.2.2.2.1.trans y55.symm⟩
  · exact ⟨Or.inl rfl, br.2.1, p2 (7, 275) (by simp), c14 0, z1 2 (by decide), by decide, fun c hc => by omega, fun c hc => by omega, fun c hc => by omega, fun c hc => by omega, fun c hc => by omega⟩
  · exact ⟨fun c hc => by omega, fun c hc => by omega⟩
  · exact fun f hf => ⟨b5.2.2 f, (z3 1310 f (by decide) (by decide)).1, Nat.le_refl _⟩
  · exact ⟨fun f hf => ⟨b0.2.2.2 f, Nat.zero_le _⟩, z1 26 (by decide), rfl, fun f hf i j hi hj => (Nat.not_lt_zero _ hj).elim, fun f hf i hi => (Nat.not_lt_zero _ hi).elim, fun r hr => by omega, fun r r' hr => by omega, fun f hf => rfl⟩
  · exact fun u hu => ⟨((un u hu).2.2.2.2.1 4).trans (z3 1316 u (by decide) (by decide)).1.symm, Or.inl (z3 1316 u (by decide) (by decide)).1⟩
  · exact ⟨(w4 4 (by decide)).trans y64.symm, (w3 (5, -1) (by simp)).trans y65.symm, (w3 (6, -1) (by simp)).trans y66.symm, (w3 (7, -1) (by simp)).trans y67.symm, (w3 (8, -1) (by simp)).trans y68.symm, 0, by decide, w4 9 (by decide), z1 69 (by decide), fun i hi => by omega⟩
  · exact ⟨0, by decide, p3 12, z1 90 (by decide), fun i hi => by omega⟩
  · exact fun r hr => by omega
  · exact ⟨fun u hu ho k hk => (Nat.not_lt_zero _ hk).elim, fun u hu ho k k' hk => (Nat.not_lt_zero _ hk).elim, fun u u' hu hu' ho ho' k k' hk => (Nat.not_lt_zero _ hk).elim, fun _ _ => 0, fun r hr => by omega, fun u hu ho k hk => (Nat.not_lt_zero _ hk).elim⟩
end INIT
