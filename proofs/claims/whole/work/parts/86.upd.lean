section UPD
variable {G : Lay} {nn nn' sc n r0 r1 : Nat} {mc rt hc K K' N us : Nat → Nat} {κ κ' ρ ρ' κ1 ρ1 : Mem} {u k : Nat}
/-- heirs have their parents' members -/
theorem mem_inh (hS : RelS sc n mc rt hc κ ρ) {o m : Nat} (hm : m < mc o) : ∀ d, d < n → isa (par ρ) d o = true → m < mc d ∧ mI ρ 1290 (16 * d + m) = mI ρ 1290 (16 * o + m) ∧ mI ρ 1291 (16 * d + m) = mI ρ 1291 (16 * o + m) ∧ mI ρ 1294 (16 * d + m) = mI ρ 1294 (16 * o + m) ∧ mI ρ 1295 (16 * d + m) = mI ρ 1295 (16 * o + m) ∧ mI ρ 1296 (16 * d + m) = mI ρ 1296 (16 * o + m) := by
  intro d
  induction d using Nat.strongRecOn with
  | _ d ih =>
    intro hd hi
    by_cases e : d = o
    · subst e; exact ⟨hm, rfl, rfl, rfl, rfl, rfl⟩
    · rcases hS.hei hd with ⟨e1, e2⟩ | ⟨p, e1, e2, e3, e4, e5, e6⟩
      · rw [isa_root e1 e] at hi; cases hi
      · rw [isa_up hS.par hS.le hd e1 e2 e] at hi
        obtain ⟨a1, a2, a3, a4, a5, a6⟩ := ih p e1 (by omega) hi
        obtain ⟨b1, b2, b3, b4, b5, b6⟩ := e6 m a1
        exact ⟨by omega, b1.trans a2, b2.trans a3, b4.trans a4, b5.trans a5, b6.trans a6⟩
/-- the rules of a row that there is, in both forms -/
theorem rule_iff (hS : RelS sc n mc rt hc κ ρ) (hR : RowsM n r0 ρ) {r f c m : Nat} {x : Int32} (hr : r < r0) (hc1 : c < n) (hm1 : m < mc c) (e1 : mI ρ 1305 r = nI f) (e2 : mI ρ 1306 r = x) (e3 : mI ρ 1307 r = nI c) (hf : f < 12) : RuleW r0 rt ρ r c m ↔ rul r0 rt ρ f x c m (mI ρ 1309 (16 * r + m)) = -1 := by
  have h12 := hS.le
  obtain ⟨⟨kk, k5, ek, k3, ⟨ff, f6, ef, fk1, fk2, fk3⟩, kt⟩, o, o1, o2, o3, o4, o5⟩ := hS.mw hc1 hm1
  have other : ∀ r', r' < r0 → (r' ≠ r ↔ ¬ (mI ρ 1305 r' = nI f ∧ mI ρ 1306 r' = x)) := fun r' h' => ⟨fun h z => h (hR.2.2.1 r' r h' hr (z.1.trans e1.symm) (z.2.trans e2.symm)), fun h z => h (by rw [z]; exact ⟨e1, e2⟩)⟩
  have pM : ¬ bkM ρ c m (mI ρ 1309 (16 * r + m)) ↔ (mI ρ 1290 (16 * c + m) = 4 → mI ρ 1294 (16 * c + m) &&& 2 ≠ 0 → mI ρ 1309 (16 * r + m) ≠ 0) := ⟨fun h a b z => h ⟨a, b, z⟩, fun h ⟨a, b, z⟩ => h a b z⟩
  have pU : ¬ bkU r0 ρ f x c m (mI ρ 1309 (16 * r + m)) ↔ (mI ρ 1294 (16 * c + m) &&& 1 ≠ 0 → ∀ r', r' < r0 → r' ≠ r → ∀ c' o, c' < 12 → mI ρ 1307 r' = nI c' → mI ρ 1296 (16 * c + m) = nI o → isa (par ρ) c' o = true → mI ρ 1309 (16 * r' + m) ≠ mI ρ 1309 (16 * r + m)) := by
    constructor
    · intro h a r' b1 b2 c' o' b3 b4 b5 b6 b7
      have eo : o' < 12 ∨ 12 ≤ o' := by omega
      rcases eo with eo | eo
      · exact h ⟨a, o', eo, b5, r', b1, (other r' b1).mp b2, ⟨c', b3, b4, b6⟩, b7⟩
      · obtain ⟨d, d1, d2⟩ := hR.2.2.2 r' b1
        have : c' = d := (eI (by omega) (by omega)).mp (b4.symm.trans d2)
        have := isa_le hS.par h12 c' (by omega) b6
        omega
    · rintro h ⟨a, o', b1, b2, r', b3, b4, ⟨d, b5, b6, b7⟩, b8⟩
      exact h a r' b3 ((other r' b3).mpr b4) d o' b5 b6 b2 b7 b8
  have pL : ¬ bkL r0 rt ρ f x c m (mI ρ 1309 (16 * r + m)) ↔ (mI ρ 1290 (16 * c + m) = 4 → mI ρ 1309 (16 * r + m) ≠ 0 → ∀ t, t < 12 → mI ρ 1291 (16 * c + m) = nI t → ∃ r', r' < r0 ∧ mI ρ 1305 r' = nI (rt t) ∧ mI ρ 1306 r' = mI ρ 1309 (16 * r + m) ∧ ∃ c', c' < 12 ∧ mI ρ 1307 r' = nI c' ∧ isa (par ρ) c' t = true) := by
    have ledI : ∀ t, t < 12 → mI ρ 1290 (16 * c + m) = 4 → mI ρ 1291 (16 * c + m) = nI t → (led r0 rt ρ f x c t (mI ρ 1309 (16 * r + m)) ↔ ∃ r', r' < r0 ∧ mI ρ 1305 r' = nI (rt t) ∧ mI ρ 1306 r' = mI ρ 1309 (16 * r + m) ∧ ∃ c', c' < 12 ∧ mI ρ 1307 r' = nI c' ∧ isa (par ρ) c' t = true) := by
      intro t ht hk et
      have ek4 : kk = 4 := (eI (b := 4) (by omega) (by decide)).mp (ek.symm.trans hk)
      obtain ⟨t', ht', et', -⟩ := kt (by omega)
      have ett : t' = t := (eI (by omega) (by omega)).mp (et'.symm.trans et)
      subst ett
      have hrt := hS.rt12 ht'
      constructor
      · rintro (⟨⟨a1, a2⟩, a3⟩ | ⟨-, h⟩)
        · exact ⟨r, hr, by rw [e1, a1], by rw [e2, a2], c, by omega, e3, a3⟩
        · exact h
      · rintro ⟨r', b1, b2, b3, d, b4, b5, b6⟩
        by_cases hs : rt t' = f ∧ mI ρ 1309 (16 * r + m) = x
        · left
          refine ⟨hs, ?_⟩
          have er := hR.2.2.1 r' r b1 hr (b2.trans (by rw [hs.1, e1])) (b3.trans (hs.2.trans e2.symm))
          subst er
          have ed : c = d := (eI (by omega) (by omega)).mp (e3.symm.trans b5)
          subst ed; exact b6
        · exact Or.inr ⟨hs, r', b1, b2, b3, d, b4, b5, b6⟩
    constructor
    · intro h a b t ht et
      exact (ledI t ht a et).mp (Classical.byContradiction fun z => h ⟨a, b, t, ht, et, z⟩)
    · rintro h ⟨a, b, t, ht, et, z⟩
      exact z ((ledI t ht a et).mpr (h a b t ht et))
  have key : rul r0 rt ρ f x c m (mI ρ 1309 (16 * r + m)) = -1 ↔ ¬ bkM ρ c m (mI ρ 1309 (16 * r + m)) ∧ ¬ bkU r0 ρ f x c m (mI ρ 1309 (16 * r + m)) ∧ ¬ bkL r0 rt ρ f x c m (mI ρ 1309 (16 * r + m)) := by
    unfold rul
    by_cases h1 : bkM ρ c m (mI ρ 1309 (16 * r + m))
    · rw [ifp_t h1]; exact ⟨fun e => absurd e (by decide), fun h => absurd h1 h.1⟩
    · rw [ifp_f h1]
      by_cases h2 : bkU r0 ρ f x c m (mI ρ 1309 (16 * r + m))
      · rw [ifp_t h2]; exact ⟨fun e => absurd e (by decide), fun h => absurd h2 h.2.1⟩
      · rw [ifp_f h2]
        by_cases h3 : bkL r0 rt ρ f x c m (mI ρ 1309 (16 * r + m))
        · rw [ifp_t h3]; exact ⟨fun e => absurd e (by decide), fun h => absurd h3 h.2.2⟩
        · rw [ifp_f h3]; exact ⟨fun _ => ⟨h1, h2, h3⟩, fun _ => rfl⟩
  rw [key, pM, pU, pL]
  exact Iff.rfl
theorem RowsW.m (hY : RowsW n r0 mc rt K ρ) (hR : RelR N r0 κ ρ) : RowsM n r0 ρ := ⟨hR.2.1, hR.le, hR.2.2.2.2.2.2.1, fun r hr => by
  obtain ⟨f, c, x, x1, x2, x3, x4, -⟩ := hY r hr
  exact ⟨c, x3, x4⟩⟩
/-- the rules hold behind a change of one row, or a further one -/
theorem RowsW.upd (hS : RelS sc n mc rt hc κ ρ) (hS' : RelS sc n mc rt hc κ' ρ') (hY : RowsW n r0 mc rt K ρ) (hR' : RowsM n r1 ρ') (hm : Eqv sM ρ ρ') {r f c x : Nat} (hr : r < r1) (hr1 : ∀ r2, r2 < r1 → r2 ≠ r → r2 < r0) (hr0 : ∀ r2, r2 < r0 → r2 < r1)
    (same : ∀ r2, r2 < r0 → r2 ≠ r → mI ρ' 1305 r2 = mI ρ 1305 r2 ∧ mI ρ' 1306 r2 = mI ρ 1306 r2 ∧ mI ρ' 1307 r2 = mI ρ 1307 r2 ∧ ∀ m, m < 16 → mI ρ' 1309 (16 * r2 + m) = mI ρ 1309 (16 * r2 + m))
    (own : r < r0 → mI ρ' 1305 r = mI ρ 1305 r ∧ mI ρ' 1306 r = mI ρ 1306 r ∧ mI ρ' 1307 r = mI ρ 1307 r)
    (hf : f < 12) (e1 : mI ρ' 1305 r = nI f) (hc1 : c < n) (e3 : mI ρ' 1307 r = nI c) (hrt : rt c = f) (x1 : 1 ≤ x) (x2 : x ≤ K f) (e2 : mI ρ' 1306 r = nI x) (hz : ∀ m, mc c ≤ m → m < 16 → mI ρ' 1309 (16 * r + m) = 0)
    (hrul : ∀ m, m < mc c → rul r1 rt ρ' f (nI x) c m (mI ρ' 1309 (16 * r + m)) = -1) : RowsW n r1 mc rt K ρ' := by
  have h12 := hS.le
  have hi : ∀ c d, c < n → isa (par ρ') c d = isa (par ρ) c d := fun c d hc => isa_cg hS.par h12 (fun c hc => sM.cl hm (by decide) (by decide) (by omega)) c hc
  have hW : ∀ m, m < mc c → RuleW r1 rt ρ' r c m := fun m hm1 => (rule_iff hS' hR' hr hc1 hm1 e1 e2 e3 hf).mpr (hrul m hm1)
  intro r2 hr2
  by_cases er : r2 = r
  · subst er
    exact ⟨f, c, x, hf, e1, hc1, e3, hrt, x1, x2, e2, hz, hW⟩
  · have h2 := hr1 r2 hr2 er
    obtain ⟨s1, s2, s3, s4⟩ := same r2 h2 er
    obtain ⟨f2, c2, y, y1, y2, y3, y4, y5, y6, y7, y8, y9, y10⟩ := hY r2 h2
    have h16 := hS.m16 y3
    refine ⟨f2, c2, y, y1, s1.trans y2, y3, s3.trans y4, y5, y6, y7, s2.trans y8, fun m m1 m2 => (s4 m m2).trans (y9 m m1 m2), fun m hm1 => ?_⟩
    have w : ∀ a, 1289 ≤ a → a ≤ 1300 → mI ρ' a (16 * c2 + m) = mI ρ a (16 * c2 + m) := fun a q1 q2 => sM.me hm q1 q2 (by omega) (by omega)
    obtain ⟨z1, z2, z3⟩ := y10 m hm1
    refine ⟨?_, ?_, ?_⟩
    · rw [w _ (by decide) (by decide), w _ (by decide) (by decide), s4 m (by omega)]; exact z1
    · intro a r' b1 b2 c' o b3 b4 b5 b6 b7
      by_cases er' : r' = r
      · subst er'
        -- the changed row against this one: by its own rule
        have ec : c' = c := (eI (by omega) (by omega)).mp (b4.symm.trans e3)
        subst ec
        obtain ⟨-, o2, p1, p2, p3, -, p5⟩ := hS'.mw y3 hm1
        have eo : o = o2 ∨ ¬ o < 2147483648 := by
          by_cases h : o < 2147483648
          · exact Or.inl ((eI h (by omega)).mp (b5.symm.trans p2))
          · exact Or.inr h
        have eoo : o = o2 := by
          rcases eo with h | h
          · exact h
          · have := isa_le hS'.par hS'.le c' hc1 b6
            omega
        subst eoo
        obtain ⟨q1, q2, q3, q4, q5, q6⟩ := mem_inh hS' p3 c' hc1 b6
        obtain ⟨u1, u2, u3, u4, u5, u6⟩ := mem_inh hS' p3 c2 y3 p5
        refine (hW m q1).2.1 (by rw [q4, ← u4]; exact a) r2 hr2 er c2 o (by omega) (s3.trans y4) ?_ p5 b7.symm
        rw [q6, ← u6]; exact p2
      · have hr'0 := hr1 r' b1 er'
        obtain ⟨t1, t2, t3, t4⟩ := same r' hr'0 er'
        rw [w _ (by decide) (by decide)] at a b5
        rw [t3] at b4
        have hc'n : c' < n := by
          obtain ⟨f3, c3, y', -, -, v3, v4, -⟩ := hY r' hr'0
          have := (eI (by omega) (by omega)).mp (b4.symm.trans v4)
          omega
        rw [hi c' o hc'n] at b6
        rw [t4 m (by omega), s4 m (by omega)] at b7
        exact z2 a r' hr'0 b2 c' o b3 b4 b5 b6 b7
    · rw [w _ (by decide) (by decide), w _ (by decide) (by decide), s4 m (by omega)]
      intro a b t t1 t2
      obtain ⟨r', v1, v2, v3, c', v4, v5, v6⟩ := z3 a b t t1 t2
      have hc'n : c' < n := by
        obtain ⟨f3, c3, y', -, -, w3, w4, -⟩ := hY r' v1
        have := (eI (by omega) (by omega)).mp (v5.symm.trans w4)
        omega
      by_cases er' : r' = r
      · subst er'
        obtain ⟨q1, q2, q3⟩ := own v1
        exact ⟨r', hr, q1.trans v2, q2.trans v3, c', v4, q3.trans v5, by rw [hi c' t hc'n]; exact v6⟩
      · obtain ⟨q1, q2, q3, -⟩ := same r' v1 er'
        exact ⟨r', hr0 r' v1, q1.trans v2, q2.trans v3, c', v4, q3.trans v5, by rw [hi c' t hc'n]; exact v6⟩
end UPD
