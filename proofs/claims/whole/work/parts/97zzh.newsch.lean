/-! the new schema in force -/
section NEWS
variable {κ0 ρ0 κ κ' ρ ρ' : Mem} {sd n nw c m d : Nat} {mc rt hc ow tb : Nat → Nat}
theorem DFin.mem (h : DFin κ0 ρ0 sd n nw mc rt hc ow tb κ ρ) (hcn : c < n) (hm : m < mc c) : ∃ o x kd f w, (o ≤ c ∧ ow o ≤ m ∧ m < mc o ∧ isa (dpar ρ) c o = true) ∧ (mR κ (sd + 5 + 5 * c) m = x ∧ sd + 64 ≤ x ∧ x < sd + 256) ∧ (mI κ x 1 = nI o ∧ mI ρ 1296 (16 * (13 + c) + m) = nI o) ∧ WdR (mJ κ x 0) (mJ ρ 1289 (16 * (13 + c) + m)) ∧ (kd ≤ 5 ∧ mI κ x 2 = nI kd ∧ mI ρ 1290 (16 * (13 + c) + m) = nI kd) ∧ (f ≤ 6 ∧ mI κ x 3 = nI f ∧ mI ρ 1294 (16 * (13 + c) + m) = nI f ∧ (kd < 4 → f ≤ 1) ∧ (kd = 4 → f % 2 = 0) ∧ (kd = 5 → f = 0 ∨ f = 4)) ∧ (mI κ x 5 = nI w ∧ mI ρ 1293 (16 * (13 + c) + m) = nI w ∧ (3 ≠ kd → w = 0)) ∧ (kd = 3 → DNam sd nw κ ρ x (16 * (13 + c) + m) w) ∧ (4 ≤ kd → ∃ t, t < n ∧ mI κ x 8 = nI t ∧ mI ρ 1291 (16 * (13 + c) + m) = nI t ∧ (kd = 5 → ∃ b, b < mc t ∧ mI κ x 11 = nI b ∧ mI ρ 1295 (16 * (13 + c) + m) = nI b ∧ mI ρ 1290 (16 * (13 + t) + b) = 4)) := by
  obtain ⟨⟨-, -, ⟨-, hs⟩, hR, ⟨d1, d2⟩, d3⟩, d4⟩ := h
  have hB := hR.1
  have h12 := hB.2.2.1
  have le := hB.2.1.le n (Nat.le_refl _)
  obtain ⟨o, o1, o2, o3, o4, o5, o6, o7, o8, o9, o10, o11⟩ := hB.own c hcn m hm
  obtain ⟨b1, ⟨b2, b2'⟩, b3, kd, f, w, ⟨c1, c2, c3⟩, c4, c5, c6, c7, c8⟩ := (hB.1 o (by omega)).2.2.1 m o2 o3
  have lt := hB.2.1.lt (show o < n by omega) o2 o3
  refine ⟨o, sd + 64 + tb o + (m - ow o), kd, f, w, ⟨o1, o2, o3, o4⟩, ⟨o5, by omega, by omega⟩, ⟨b2, o11.trans b2'⟩, ?_, ⟨c1, c2, o7.trans c3⟩, ?_, ?_, fun e => ?_, fun h4 => ?_⟩
  · rw [o6]; exact b3
  · rw [o10]; exact c4
  · rw [o9]; exact c5
  · obtain ⟨a, a1, a2, a3⟩ := c6 e
    exact ⟨a, a1, o8.trans a2, a3⟩
  · obtain ⟨t, t1, t2, t3⟩ := d3 o m (Or.inl (by omega)) (by omega) o2 o3 kd c3 h4 c1
    have e8 := (d1 o m (by omega) o2 o3 ⟨kd, h4, c1, c3⟩).1
    have e1 := d2 c m o hcn hm (by omega) (o11.trans b2')
    have e5 := d4 c m o hcn hm (by omega) (o11.trans b2')
    refine ⟨t, t1, e8.trans t2, e1.trans t2, fun e => ?_⟩
    obtain ⟨b, y1, y2, y3, y4⟩ := t3 e
    exact ⟨b, y1, y2, e5.trans y3, y4⟩
theorem DFin.relS (h : DFin κ0 ρ0 sd n nw mc rt hc ow tb κ ρ) (fC : Eqv (fun a _ => sd ≤ a ∧ a < sd + 256) κ κ') (k1 : mR κ' 13 0 = sd) (k2 : mR κ' 1 7 = 289 - sd) (cp : ∀ c, c < n → cpK ρ ρ' c) (e2 : mI ρ' 1282 2 = nI n) : RelS sd n mc rt hc κ' ρ' := by
  obtain ⟨⟨-, -, ⟨-, hs⟩, hR, ⟨d1, d2⟩, d3⟩, d4⟩ := id h
  obtain ⟨hB, hN, ⟨q1, q2, q3⟩, q4, q5⟩ := id hR
  have h12 := hB.2.2.1
  have law := hB.2.1.2
  have g : ∀ a k, sd ≤ a → a < sd + 256 → mI κ' a k = mI κ a k := fun a k x y => fC.I ⟨x, y⟩
  have gR : ∀ a k, sd ≤ a → a < sd + 256 → mR κ' a k = mR κ a k := fun a k x y => fC.R ⟨x, y⟩
  have rk : ∀ a c, c < n → 1285 ≤ a → a ≤ 1288 → mI ρ' a c = mI ρ a (13 + c) := fun a c x y z => (cp c x).1.2 a y z
  have rm : ∀ a c m, c < n → m < 16 → 1290 ≤ a → a ≤ 1296 → a ≠ 1292 → mI ρ' a (16 * c + m) = mI ρ a (16 * (13 + c) + m) := fun a c m x y z w v => ((cp c x).2.1 m y).2.1 a z w v
  refine ⟨hs, k1, k2, ?_, e2, h12, fun c hcn => ?_, fun c hcn => ?_, fun c hcn m hm => ?_, fun c hcn m hm => ?_, fun c hcn q hq => ?_⟩
  · rw [g _ _ (by omega) (by omega)]; exact q1
  · obtain ⟨a1, a2, a3, a4, a5⟩ := (hB.1 c hcn).1
    obtain ⟨⟨n1, n2⟩, n3, n4⟩ := hN c hcn
    have l := law c hcn
    unfold ClsR
    rw [g _ 1 (by omega) (by omega), g _ 2 (by omega) (by omega), g _ 3 (by omega) (by omega), g _ 4 (by omega) (by omega), g _ 6 (by omega) (by omega), rk 1285 c hcn (by decide) (by decide), rk 1286 c hcn (by decide) (by decide), rk 1287 c hcn (by decide) (by decide), rk 1288 c hcn (by decide) (by decide)]
    exact ⟨a2, a3, ⟨a4, a5⟩, n1, n2, l.2.1, n3, n4, l.2.2.1⟩
  · have l := law c hcn
    unfold HeiR
    rw [rk 1285 c hcn (by decide) (by decide), rk 1286 c hcn (by decide) (by decide)]
    rcases (hB.1 c hcn).2.1 with ⟨a1, a2, a3⟩ | ⟨p, p1, p2, p3, p4, p5, p6⟩
    · exact Or.inl ⟨a1, a2⟩
    · have lp := law p (by omega)
      refine Or.inr ⟨p, p1, p2, p3, by omega, by rw [rk 1286 p (by omega) (by decide) (by decide)]; exact p5, fun m hm => ?_⟩
      obtain ⟨y1, y2, y3, y4, y5, y6, y7⟩ := p6 m hm
      obtain ⟨o, x, kd, f, w, ⟨o1, o2, o3, -⟩, -, ⟨-, o96⟩, -⟩ := h.mem (show p < n by omega) hm
      have oc : mI ρ 1296 (16 * (13 + c) + m) = nI o := y7.trans o96
      rw [rm 1290 c m hcn (by omega) (by decide) (by decide) (by decide), rm 1290 p m (by omega) (by omega) (by decide) (by decide) (by decide), rm 1291 c m hcn (by omega) (by decide) (by decide) (by decide), rm 1291 p m (by omega) (by omega) (by decide) (by decide) (by decide), rm 1293 c m hcn (by omega) (by decide) (by decide) (by decide), rm 1293 p m (by omega) (by omega) (by decide) (by decide) (by decide), rm 1294 c m hcn (by omega) (by decide) (by decide) (by decide), rm 1294 p m (by omega) (by omega) (by decide) (by decide) (by decide), rm 1295 c m hcn (by omega) (by decide) (by decide) (by decide), rm 1295 p m (by omega) (by omega) (by decide) (by decide) (by decide), rm 1296 c m hcn (by omega) (by decide) (by decide) (by decide), rm 1296 p m (by omega) (by omega) (by decide) (by decide) (by decide)]
      exact ⟨y3, (d2 c m o hcn (by omega) (by omega) oc).trans (d2 p m o (by omega) hm (by omega) o96).symm, y5, y6, (d4 c m o hcn (by omega) (by omega) oc).trans (d4 p m o (by omega) hm (by omega) o96).symm, y7⟩
  · have l := law c hcn
    obtain ⟨o, x, kd, f, w, ⟨o1, o2, o3, o4⟩, ⟨x1, x2, x3⟩, ⟨y1, y2⟩, -, ⟨z1, z2, z3⟩, ⟨f1, f2, f3, -⟩, ⟨w1, w2, -⟩, -, t⟩ := h.mem hcn hm
    unfold MemR
    rw [gR _ _ (by omega) (by omega), x1, g x 1 (by omega) (by omega), g x 2 (by omega) (by omega), g x 3 (by omega) (by omega), g x 5 (by omega) (by omega), g x 8 (by omega) (by omega), g x 11 (by omega) (by omega), rm 1290 c m hcn (by omega) (by decide) (by decide) (by decide), rm 1291 c m hcn (by omega) (by decide) (by decide) (by decide), rm 1293 c m hcn (by omega) (by decide) (by decide) (by decide), rm 1294 c m hcn (by omega) (by decide) (by decide) (by decide), rm 1295 c m hcn (by omega) (by decide) (by decide) (by decide), rm 1296 c m hcn (by omega) (by decide) (by decide) (by decide), z3]
    refine ⟨⟨x2, x3⟩, y1.trans y2.symm, z2, f2.trans f3.symm, w1.trans w2.symm, fun e => ?_, fun e => ?_⟩
    · have h4 : 4 ≤ kd := (lI (a := 4) (by decide) (by omega)).mp e
      obtain ⟨t, t1, t2, t3, -⟩ := t h4
      exact t2.trans t3.symm
    · have h5 : kd = 5 := (eI (b := 5) (by omega) (by decide)).mp e
      obtain ⟨t, t1, t2, t3, t4⟩ := t (by omega)
      obtain ⟨b, b1, b2, b3, b4⟩ := t4 h5
      exact b2.trans b3.symm
  · have l := law c hcn
    obtain ⟨o, x, kd, f, w, ⟨o1, o2, o3, o4⟩, ⟨x1, x2, x3⟩, ⟨y1, y2⟩, -, ⟨z1, z2, z3⟩, ⟨f1, f2, f3, f4⟩, ⟨w1, w2, w3⟩, -, t⟩ := h.mem hcn hm
    have lo := law o (by omega)
    refine ⟨⟨kd, z1, ?_, fun e => ?_, ⟨f, f1, ?_, f4⟩, fun h4 => ?_⟩, o, o1, ?_, o3, ?_, ?_⟩
    · rw [rm 1290 c m hcn (by omega) (by decide) (by decide) (by decide)]; exact z3
    · rw [rm 1293 c m hcn (by omega) (by decide) (by decide) (by decide), w2, w3 e]; rfl
    · rw [rm 1294 c m hcn (by omega) (by decide) (by decide) (by decide)]; exact f3
    · obtain ⟨t, t1, t2, t3, t4⟩ := t h4
      have lt := law t t1
      refine ⟨t, t1, by rw [rm 1291 c m hcn (by omega) (by decide) (by decide) (by decide)]; exact t3, fun e => ?_⟩
      obtain ⟨b, b1, b2, b3, b4⟩ := t4 e
      refine ⟨b, b1, ?_, ?_⟩
      · rw [rm 1295 c m hcn (by omega) (by decide) (by decide) (by decide)]; exact b3
      · rw [rm 1290 t b t1 (by omega) (by decide) (by decide) (by decide)]; exact b4
    · rw [rm 1296 c m hcn (by omega) (by decide) (by decide) (by decide)]; exact y2
    · unfold ownFrom
      rw [rk 1285 o (by omega) (by decide) (by decide)]
      rcases (hB.1 o (by omega)).2.1 with ⟨a1, -, a3⟩ | ⟨p, p1, p2, p3, p4, -⟩
      · rw [a1, if_pos m1_neg]; omega
      · rw [p2, if_neg (pI (by omega)), cI (by omega)]; omega
    · rw [isa_cg hB.par h12 (fun c hc => rk 1285 c hc (by decide) (by decide)) c hcn]; exact o4
  · have l := law c hcn
    obtain ⟨a1, ⟨m, b1, b2, b3, b4⟩, a3⟩ := (hB.1 c hcn).2.2.2 q hq
    have rh : ∀ a, 1301 ≤ a → a ≤ 1303 → mI ρ' a (4 * c + q) = mI ρ a (4 * (13 + c) + q) := fun a x y => (cp c hcn).2.2 q a (by omega) x y
    refine ⟨?_, ⟨m, b1, ?_, ?_, ?_⟩, ?_⟩
    · rw [g _ _ (by omega) (by omega), rh 1301 (by decide) (by decide)]; exact a1
    · rw [g _ _ (by omega) (by omega)]; exact b2
    · rw [rh 1302 (by decide) (by decide)]; exact b3
    · rw [rm 1290 c m hcn (by omega) (by decide) (by decide) (by decide)]; exact b4
    · rw [g _ _ (by omega) (by omega), rh 1303 (by decide) (by decide)]; exact a3
theorem DFin.relN (h : DFin κ0 ρ0 sd n nw mc rt hc ow tb κ ρ) (fC : Eqv (fun a _ => sd ≤ a ∧ a < sd + 256) κ κ') (cp : ∀ c, c < n → cpK ρ ρ' c) (nm : ∀ j, j < nw → mJ ρ' 1304 j = mJ ρ 1304 (1600 + j)) : RelN sd n mc κ' ρ' := by
  obtain ⟨⟨-, -, ⟨-, hs⟩, hR, -⟩, -⟩ := id h
  have hB := hR.1
  have h12 := hB.2.2.1
  have hnw := hB.2.2.2
  have law := hB.2.1.2
  have gJ : ∀ a k, sd ≤ a → a < sd + 256 → mJ κ' a k = mJ κ a k := fun a k x y => fC.J ⟨x, y⟩
  refine ⟨fun c hcn => ?_, fun c hcn m hm => ?_⟩
  · rw [gJ _ _ (by omega) (by omega), (cp c hcn).1.1]; exact (hB.1 c hcn).1.1
  · have l := law c hcn
    obtain ⟨o, x, kd, f, w, -, ⟨x1, x2, x3⟩, -, y, ⟨z1, z2, z3⟩, -, ⟨w1, w2, w3⟩, nn, -⟩ := h.mem hcn hm
    obtain ⟨c1, c2, c3⟩ := (cp c hcn).2.1 m (by omega)
    rw [fC.R ⟨by omega, by omega⟩, x1, gJ x 0 (by omega) (by omega), c1]
    refine ⟨y, fun e => ?_⟩
    rw [c2 1290 (by decide) (by decide) (by decide)] at e
    rw [if_pos e] at c3
    rw [z3] at e
    have h3 : kd = 3 := (eI (b := 3) (by omega) (by decide)).mp e
    obtain ⟨a, a1, a2, a3, a4, a5⟩ := nn h3
    have e92 : mI ρ' 1292 (16 * c + m) = nI a := by
      rw [c3, a2]
      show nI (1600 + a) - nI 1600 = nI a
      rw [pk_sub (by omega), show 1600 + a - 1600 = a by omega]
    have ej : ∀ i, i < w → mJ ρ' 1304 (a + i) = mJ ρ 1304 (1600 + a + i) := fun i hi => by rw [nm _ (by omega), show 1600 + (a + i) = 1600 + a + i by omega]
    refine ⟨w, a, a, ?_, ?_, e92, by omega, by omega, fun i hi => ?_, fun i j hi hj => ?_⟩
    · rw [c2 1293 (by decide) (by decide) (by decide)]; exact w2
    · rw [fC.I ⟨by omega, by omega⟩]; exact a1
    · rw [gJ _ _ (by omega) (by omega), ej i hi]; exact a4 i hi
    · rw [ej i hi, ej j hj]; exact a5 i j hi hj
end NEWS
