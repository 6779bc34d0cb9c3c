section LEADS
variable {G : Lay} {nn sc n r0 r1 w : Nat} {mc rt hc K N N1 us : Nat → Nat} {κ κ' κ0 ρ ρ' ρ0 κ1 ρ1 : Mem} {u k f : Nat}
theorem Lw.seq {α : Type} {F : (α → Prop) → α → Prop} (s : Nat → α) (u : Nat) (hs : ∀ (K : α → Prop) i, i < u → K (s (i + 1)) → F K (s i)) (he : ∀ K : α → Prop, F K (s u)) : Lw F (s 0) := by
  have key : ∀ d i, i + d = u → Lw F (s i) := by
    intro d
    induction d with
    | zero => intro i h; obtain rfl : i = u := by omega
              exact Lw.fin he
    | succ d ih => intro i h; exact Lw.stp (fun K hK => hs K i (by omega) hK) (ih (i + 1) (by omega))
  exact key u 0 (by omega)
/-- a member of a row leads to a key of a family -/
def lmP (mc rt : Nat → Nat) (ρ : Mem) (c r f : Nat) (x : Int32) (m : Nat) : Prop := m < mc c ∧ mI ρ 1290 (16 * c + m) = 4 ∧ mI ρ 1309 (16 * r + m) = x ∧ ∃ t, t < 12 ∧ mI ρ 1291 (16 * c + m) = nI t ∧ rt t = f
/-- another row leads to it -/
def cdP (mc rt : Nat → Nat) (ρ : Mem) (f : Nat) (x : Int32) (r : Nat) : Prop := ¬ (mI ρ 1305 r = nI f ∧ mI ρ 1306 r = x) ∧ ∃ c m, c < 12 ∧ mI ρ 1307 r = nI c ∧ lmP mc rt ρ c r f x m
theorem m_leadStep (hM : LyM G) (hm : StM ρ) (hS : RelS sc n mc rt hc κ ρ) {c r m : Nat} {x : Int32} (hr : r < 720) (hf : f < 12) (hc1 : c < n) (hm1 : m < mc c) {Q : Int32 → Mem → Prop} {K11 : Int32 × Mem → Prop} (k1 : lmP mc rt ρ c r f x m → Q (nI m) (mg κ1 ρ)) (k0 : ¬ lmP mc rt ρ c r f x m → K11 (nI (m + 1), mg κ1 ρ)) : X_X12_leads_11_s G Q 1282 (nI r) (nI f) x (nI c) K11 (nI m, mg κ1 ρ) := by
  have h12 := hS.le
  obtain ⟨-, -, -, -, ew, h16, -⟩ := hS.cls hc1
  have n16 : (16 : Int32) = nI 16 := rfl
  simp (disch := omega) only [X_X12_leads_11_s, X_X12_leads_78, n16, pk_mul, nI_add, mI_m, mR_m, mJ_m, sI_m, sJ_m, hM.1, hM.2, hm.1, hm.2, lT, lF, tT, tF, eF, pF, zT, m1F, vT, cI, true_and, and_true, true_implies, false_implies, not_false_eq_true, not_true_eq_false, forall_eq, implies_true, ew, nI_1]
  refine ⟨fun e4 => ⟨fun ex => ?_, fun ex => k0 (fun h => ex h.2.2.1)⟩, fun e4 => k0 (fun h => e4 h.2.1)⟩
  obtain ⟨⟨kd, kd1, kd2, -, -, hto⟩, -⟩ := hS.mw hc1 hm1
  have ekd : kd = 4 := (eI (b := 4) (by omega) (by decide)).mp (kd2.symm.trans e4)
  subst ekd
  obtain ⟨t, t1, t2, -⟩ := hto (Nat.le_refl _)
  have hrt := hS.rt12 t1
  rw [t2]
  refine m_rootOf hM hm hS t1 ⟨fun e => k1 ⟨hm1, e4, ex, t, by omega, t2, (eI (by omega) (by omega)).mp e⟩, fun e => k0 (fun h => e ?_)⟩
  obtain ⟨-, -, -, t', a1, a2, a3⟩ := h
  rw [show t' = t from (eI (by omega) (by omega)).mp (a2.symm.trans t2)] at a3
  rw [a3]
theorem m_leads1 (hM : LyM G) (hm : StM ρ) (hS : RelS sc n mc rt hc κ ρ) {c r m0 : Nat} {x : Int32} (hr : r < 720) (hf : f < 12) (hc1 : c < n) (ec : mI ρ 1307 r = nI c) (h0 : lmP mc rt ρ c r f x m0) (hn : ∀ m, m < m0 → ¬ lmP mc rt ρ c r f x m) {Q : Int32 → Mem → Prop} (q : Q (nI m0) (mg κ1 ρ)) : X_X12_leads G Q 1282 (nI r) (nI f) x (mg κ1 ρ) := by
  have h12 := hS.le
  simp (disch := omega) only [X_X12_leads, X_X12_leads_0, X_X12_leads_11, mI_m, mR_m, mJ_m, sI_m, sJ_m, hM.1, hM.2, hm.1, hm.2, lT, lF, tT, tF, eF, pF, zT, m1F, vT, cI, true_and, and_true, true_implies, false_implies, not_false_eq_true, not_true_eq_false, forall_eq, implies_true, ec]
  have hlt := h0.1
  refine Lw.at m0 (fun K' i hi hk' => m_leadStep hM hm hS hr hf hc1 (by omega) (fun h => absurd h (hn i hi)) (fun _ => hk')) (fun K' => m_leadStep hM hm hS hr hf hc1 hlt (fun _ => q) (fun h => absurd h0 h))
theorem m_leads0 (hM : LyM G) (hm : StM ρ) (hS : RelS sc n mc rt hc κ ρ) {c r : Nat} {x : Int32} (hr : r < 720) (hf : f < 12) (hc1 : c < n) (ec : mI ρ 1307 r = nI c) (hn : ∀ m, ¬ lmP mc rt ρ c r f x m) {Q : Int32 → Mem → Prop} (q : Q (-1) (mg κ1 ρ)) : X_X12_leads G Q 1282 (nI r) (nI f) x (mg κ1 ρ) := by
  have h12 := hS.le
  obtain ⟨-, -, -, -, ew, h16, -⟩ := hS.cls hc1
  simp (disch := omega) only [X_X12_leads, X_X12_leads_0, X_X12_leads_11, mI_m, mR_m, mJ_m, sI_m, sJ_m, hM.1, hM.2, hm.1, hm.2, lT, lF, tT, tF, eF, pF, zT, m1F, vT, cI, true_and, and_true, true_implies, false_implies, not_false_eq_true, not_true_eq_false, forall_eq, implies_true, ec]
  refine Lw.at (mc c) (fun K' i hi hk' => m_leadStep hM hm hS hr hf hc1 hi (fun h => absurd h (hn i)) (fun _ => hk')) (fun K' => ?_)
  simp (disch := omega) only [X_X12_leads_11_s, mI_m, mR_m, mJ_m, sI_m, sJ_m, hM.1, hM.2, hm.1, hm.2, lT, lF, tT, tF, eF, pF, zT, m1F, vT, cI, true_and, and_true, true_implies, false_implies, not_false_eq_true, not_true_eq_false, forall_eq, implies_true, ew]
  exact q
def rkR (ρ : Mem) (r : Nat) : Nat := 1000 * (mI ρ 1307 r).toNatClampNeg + (mI ρ 1306 r).toNatClampNeg
/-- rows' classes and keys are small -/
def RowsB (n r0 : Nat) (ρ : Mem) : Prop := ∀ r, r < r0 → ∃ c y, c < n ∧ y < 1000 ∧ mI ρ 1307 r = nI c ∧ mI ρ 1306 r = nI y
theorem m_leadsTo (hM : LyM G) (hm : StM ρ) (hS : RelS sc n mc rt hc κ ρ) (e26 : mI ρ 1282 26 = nI r0) (hr7 : r0 ≤ 720) (hB : RowsB n r0 ρ) {x : Int32} (hf : f < 12) {Q : Int32 → Mem → Prop}
    (k1 : ∀ b c m0, b < r0 → c < n → mI ρ 1307 b = nI c → cdP mc rt ρ f x b → (∀ r, r < r0 → cdP mc rt ρ f x r → rkR ρ b ≤ rkR ρ r) → lmP mc rt ρ c b f x m0 → (∀ m, m < m0 → ¬ lmP mc rt ρ c b f x m) → Q (nI b) (mg κ1 (sI (sI ρ 1282 57 (nI m0)) 1282 58 2)))
    (k0 : (∀ r, r < r0 → ¬ cdP mc rt ρ f x r) → Q (-1) (mg κ1 ρ)) : X_X12_leadsTo G Q 1282 (nI f) x (mg κ1 ρ) := by
  have h12 := hS.le
  simp only [X_X12_leadsTo, X_X12_leadsTo_0, X_X12_leadsTo_5]
  refine Lw.nat r0 (fun i s => ∃ y, s = (y, nI i, mg κ1 ρ) ∧ (y = -1 ∧ (∀ r, r < i → ¬ cdP mc rt ρ f x r) ∨ ∃ b, b < i ∧ y = nI b ∧ cdP mc rt ρ f x b ∧ ∀ r, r < i → cdP mc rt ρ f x r → rkR ρ b ≤ rkR ρ r)) ?_ 0 (by omega) _ ⟨-1, rfl, Or.inl ⟨rfl, fun r h => by omega⟩⟩
  rintro K' i s hi ⟨y, rfl, hy⟩ hk'
  by_cases hlt : i < r0
  · obtain ⟨c, v, c1, v1, ec, ev⟩ := hB i hlt
    have ri : rkR ρ i = 1000 * c + v := by unfold rkR; rw [ec, ev, cI (by omega), cI (by omega)]
    -- it stays as it was
    have stay : (¬ cdP mc rt ρ f x i ∨ ∃ b, b < i ∧ y = nI b ∧ rkR ρ b ≤ rkR ρ i) → K' (y, nI (i + 1), mg κ1 ρ) := fun h => hk' _ hlt ⟨y, rfl, by
      rcases hy with ⟨y1, y2⟩ | ⟨b, y1, y2, y3, y4⟩
      · refine Or.inl ⟨y1, fun r hr => ?_⟩
        by_cases e : r = i
        · rw [e]
          rcases h with h | ⟨b, b1, b2, -⟩
          · exact h
          · rw [y1] at b2; exact absurd b2.symm (mI1 (by omega))
        · exact y2 r (by omega)
      · refine Or.inr ⟨b, by omega, y2, y3, fun r hr hc => ?_⟩
        by_cases e : r = i
        · rw [e] at hc ⊢
          rcases h with h | ⟨b', b1, b2, b3⟩
          · exact absurd hc h
          · rw [show b = b' from (eI (by omega) (by omega)).mp (y2.symm.trans b2)]; exact b3
        · exact y4 r (by omega) hc⟩
    have take : cdP mc rt ρ f x i → (y = -1 ∨ ∃ b, b < i ∧ y = nI b ∧ rkR ρ i < rkR ρ b) → K' (nI i, nI (i + 1), mg κ1 ρ) := fun hc h => hk' _ hlt ⟨nI i, rfl, Or.inr ⟨i, by omega, rfl, hc, fun r hr hc2 => by
      by_cases e : r = i
      · rw [e]; exact Nat.le_refl _
      · rcases hy with ⟨y1, y2⟩ | ⟨b, y1, y2, y3, y4⟩
        · exact absurd hc2 (y2 r (by omega))
        · rcases h with h | ⟨b', b1, b2, b3⟩
          · rw [h] at y2; exact absurd y2.symm (mI1 (by omega))
          · rw [show b' = b from (eI (by omega) (by omega)).mp (b2.symm.trans y2)] at b3
            have := y4 r (by omega) hc2
            omega⟩⟩
    -- whether it leads
    have r91 : ¬ (mI ρ 1305 i = nI f ∧ mI ρ 1306 i = x) → (y = -1 ∨ ∃ b, b < i ∧ y = nI b ∧ rkR ρ i < rkR ρ b) → X_X12_leadsTo_91 G Q K' 1282 (nI f) x y (nI i) (mg κ1 ρ) := fun hns h => by
      simp (disch := omega) only [X_X12_leadsTo_91, X_X12_leadsTo_96, X_X12_leadsTo_117, hM.1, lT, lF, tT, tF, eF, pF, zT, m1F, vT, cI, true_and, and_true, true_implies, false_implies, not_false_eq_true, not_true_eq_false, forall_eq, implies_true, o0F, nI_1]
      by_cases hl : ∃ m, lmP mc rt ρ c i f x m
      · obtain ⟨m0, m1, m2⟩ := pk_least _ hl
        exact m_leads1 hM hm hS (by omega) hf c1 ec m1 m2 (brF (pI (by have := hS.m16 c1; have := m1.1; omega)) (take ⟨hns, c, m0, by omega, ec, m1⟩ h))
      · refine m_leads0 hM hm hS (by omega) hf c1 ec (fun m h => hl ⟨m, h⟩) (brT m1_neg (stay (Or.inl ?_)))
        rintro ⟨-, c', m, a1, a2, a3⟩
        rw [show c' = c from (eI (by omega) (by omega)).mp (a2.symm.trans ec)] at a3
        exact hl ⟨m, a3⟩
    have r39 : ¬ (mI ρ 1305 i = nI f ∧ mI ρ 1306 i = x) → X_X12_leadsTo_39 G Q K' 1282 (nI f) x y (nI i) (mg κ1 ρ) := fun hns => by
      rcases hy with ⟨y1, y2⟩ | ⟨b, y1, y2, y3, y4⟩
      · rw [y1]
        rw [y1] at r91
        exact brT m1_neg (r91 hns (Or.inl rfl))
      · obtain ⟨cb, vb, cb1, vb1, ecb, evb⟩ := hB b (by omega)
        have rb : rkR ρ b = 1000 * cb + vb := by unfold rkR; rw [ecb, evb, cI (by omega), cI (by omega)]
        rw [y2]
        rw [y2] at r91 stay
        refine brF (pI (by omega)) ?_
        simp (disch := omega) only [X_X12_leadsTo_95, X_X12_leadsTo_96, X_X12_leadsTo_117, mI_m, mR_m, mJ_m, sI_m, sJ_m, hM.1, hM.2, hm.1, hm.2, lT, lF, tT, tF, eF, pF, zT, m1F, vT, cI, true_and, and_true, true_implies, false_implies, not_false_eq_true, not_true_eq_false, forall_eq, implies_true, ec, ecb, ev, evb, nI_1]
        refine ⟨fun e => r91 hns (Or.inr ⟨b, y1, rfl, ?_⟩), fun e => ⟨fun e2 => ⟨fun e3 => stay (Or.inr ⟨b, y1, rfl, ?_⟩), fun e3 => r91 hns (Or.inr ⟨b, y1, rfl, ?_⟩)⟩, fun e2 => stay (Or.inr ⟨b, y1, rfl, ?_⟩)⟩⟩
        · have := (tI (by omega) (by omega)).mp e; omega
        · have := (eI (by omega) (by omega)).mp e2; have := (lI (by omega) (by omega)).mp e3; omega
        · have := (eI (by omega) (by omega)).mp e2
          have : ¬ vb ≤ v := fun h => e3 ((lI (by omega) (by omega)).mpr h)
          omega
        · have : ¬ c < cb := fun h => e ((tI (by omega) (by omega)).mpr h)
          have : ¬ c = cb := fun h => e2 (by rw [h])
          omega
    simp (disch := omega) only [X_X12_leadsTo_5_s, X_X12_leadsTo_117, mI_m, mR_m, mJ_m, sI_m, sJ_m, hM.1, hM.2, hm.1, hm.2, lT, lF, tT, tF, eF, pF, zT, m1F, vT, cI, true_and, and_true, true_implies, false_implies, not_false_eq_true, not_true_eq_false, forall_eq, implies_true, e26, nI_1]
    exact ⟨fun e1 => ⟨fun e2 => stay (Or.inl (fun h => h.1 ⟨e1, e2⟩)), fun e2 => r39 (fun h => e2 h.2)⟩, fun e1 => r39 (fun h => e1 h.1)⟩
  · obtain rfl : i = r0 := by omega
    simp (disch := omega) only [X_X12_leadsTo_5_s, X_X12_leadsTo_141, mI_m, hM.1, lT, lF, tT, tF, eF, pF, zT, m1F, vT, cI, true_and, and_true, true_implies, false_implies, not_false_eq_true, not_true_eq_false, forall_eq, implies_true, e26]
    rcases hy with ⟨rfl, y2⟩ | ⟨b, y1, rfl, y3, y4⟩
    · exact brT m1_neg (k0 y2)
    · refine brF (pI (by omega)) ?_
      obtain ⟨cb, vb, cb1, vb1, ecb, evb⟩ := hB b y1
      obtain ⟨hns, c', m, a1, a2, a3⟩ := id y3
      rw [show c' = cb from (eI (by omega) (by omega)).mp (a2.symm.trans ecb)] at a3
      obtain ⟨m0, m1, m2⟩ := pk_least _ ⟨m, a3⟩
      refine m_leads1 hM hm hS (by omega) hf cb1 ecb m1 m2 ?_
      simp (disch := omega) only [X_X12_breaks, X_X12_breaks_0, hM.1, sI_m, lT, lF, tT, tF, eF, pF, zT, m1F, vT, cI, true_and, and_true, true_implies, false_implies, not_false_eq_true, not_true_eq_false, forall_eq, implies_true, bzT1]
      exact k1 b cb m0 y1 cb1 ecb y3 y4 m1 m2
theorem c_leadStep (hG : Ly G) (hC : StC κ) (hS : RelS sc n mc rt hc κ ρ) {c r m g i : Nat} {x : Int32} (hg : g < 12) (hi : i < 60) (hrow : RowR κ ρ g i r) (hf : f < 12) (hc1 : c < n) (hm1 : m < mc c) {Q : Int32 → Mem → Prop} {K19 : Int32 × Mem → Prop} (k1 : lmP mc rt ρ c r f x m → Q (nI m) (mg κ ρ1)) (k0 : ¬ lmP mc rt ρ c r f x m → K19 (nI (m + 1), mg κ ρ1)) : X_X5_memberLeading_19_s G Q 13 (nI (60 * g + i)) (nI f) x (sc + 4 + 5 * c) K19 (nI m, mg κ ρ1) := by
  have hL := hG.1
  have hT2 := hG.s hS.s2
  have hK2 := hC.ss hS.s2
  have hs2 := hS.s2
  have h12 := hS.le
  obtain ⟨-, -, -, ew, -, h16, -⟩ := hS.cls hc1
  have mem := hS.mem hc1 hm1
  obtain ⟨g3, gm, -⟩ := memT hG hS hc1 hm1
  have n16 : (16 : Int32) = nI 16 := rfl
  have ev := hrow.2.2.2.2 m (by omega)
  rw [Nat.mul_comm 16 (60 * g + i)] at ev
  simp (disch := omega) only [X_X5_memberLeading_19_s, X_X5_memberLeading_78, X_X5_get_0, X_X5_get, n16, pk_mul, nI_add, mI_c, mR_c, mJ_c, sI_c, sJ_c, sR_c, hL.1, hL.2.1, hL.2.2, hC.1, hC.2.1, hC.2.2.1, lT, lF, tT, tF, eF, pF, zT, m1F, vT, cI, true_and, and_true, true_implies, false_implies, not_false_eq_true, not_true_eq_false, forall_eq, implies_true, hT2.1, hT2.2.1, hK2.1, hK2.2.1, ew, g3, mem.2.2.1, ev, hS.r13, nI_1]
  refine ⟨fun e4 => ⟨fun ex => ?_, fun ex => k0 (fun h => ex h.2.2.1)⟩, fun e4 => k0 (fun h => e4 h.2.1)⟩
  obtain ⟨⟨kd, kd1, kd2, -, -, hto⟩, -⟩ := hS.mw hc1 hm1
  have ekd : kd = 4 := (eI (b := 4) (by omega) (by decide)).mp (kd2.symm.trans e4)
  subst ekd
  obtain ⟨t, t1, t2, -⟩ := hto (Nat.le_refl _)
  have m8 := (mem.2.2.2.2.2.1 (by rw [e4]; decide)).trans t2
  have hrt := hS.rt12 t1
  rw [m8]
  refine c_rootOf1 hG hC hS t1 ⟨fun e => k1 ⟨hm1, e4, ex, t, by omega, t2, (eI (by omega) (by omega)).mp e⟩, fun e => k0 (fun h => e ?_)⟩
  obtain ⟨-, -, -, t', a1, a2, a3⟩ := h
  rw [show t' = t from (eI (by omega) (by omega)).mp (a2.symm.trans t2)] at a3
  rw [a3]
theorem c_memLead1 (hG : Ly G) (hC : StC κ) (hS : RelS sc n mc rt hc κ ρ) {c r m0 g i : Nat} {x : Int32} (hg : g < 12) (hi : i < 60) (hrow : RowR κ ρ g i r) (hf : f < 12) (hc1 : c < n) (ec : mI ρ 1307 r = nI c) (h0 : lmP mc rt ρ c r f x m0) (hn : ∀ m, m < m0 → ¬ lmP mc rt ρ c r f x m) {Q : Int32 → Mem → Prop} (q : Q (nI m0) (mg κ ρ1)) : X_X5_memberLeading G Q 13 (nI (60 * g + i)) (nI f) x (mg κ ρ1) := by
  have hL := hG.1
  have hT2 := hG.s hS.s2
  have hK2 := hC.ss hS.s2
  have hs2 := hS.s2
  have h12 := hS.le
  have ek := hrow.2.2.1.trans ec
  have hlt := h0.1
  simp (disch := omega) only [X_X5_memberLeading, X_X5_memberLeading_0, X_X5_memberLeading_19, mI_c, mR_c, mJ_c, sI_c, sJ_c, sR_c, hL.1, hL.2.1, hL.2.2, hC.1, hC.2.1, hC.2.2.1, lT, lF, tT, tF, eF, pF, zT, m1F, vT, cI, true_and, and_true, true_implies, false_implies, not_false_eq_true, not_true_eq_false, forall_eq, implies_true, hS.r13, hT2.1, hT2.2.1, hK2.1, hK2.2.1, ek]
  exact Lw.at m0 (fun K' j hj hk' => c_leadStep hG hC hS hg hi hrow hf hc1 (by omega) (fun h => absurd h (hn j hj)) (fun _ => hk')) (fun K' => c_leadStep hG hC hS hg hi hrow hf hc1 hlt (fun _ => q) (fun h => absurd h0 h))
theorem c_memLead0 (hG : Ly G) (hC : StC κ) (hS : RelS sc n mc rt hc κ ρ) {c r g i : Nat} {x : Int32} (hg : g < 12) (hi : i < 60) (hrow : RowR κ ρ g i r) (hf : f < 12) (hc1 : c < n) (ec : mI ρ 1307 r = nI c) (hn : ∀ m, ¬ lmP mc rt ρ c r f x m) {Q : Int32 → Mem → Prop} (q : Q (-1) (mg κ ρ1)) : X_X5_memberLeading G Q 13 (nI (60 * g + i)) (nI f) x (mg κ ρ1) := by
  have hL := hG.1
  have hT2 := hG.s hS.s2
  have hK2 := hC.ss hS.s2
  have hs2 := hS.s2
  have h12 := hS.le
  obtain ⟨-, -, -, ew, -, h16, -⟩ := hS.cls hc1
  have ek := hrow.2.2.1.trans ec
  simp (disch := omega) only [X_X5_memberLeading, X_X5_memberLeading_0, X_X5_memberLeading_19, mI_c, mR_c, mJ_c, sI_c, sJ_c, sR_c, hL.1, hL.2.1, hL.2.2, hC.1, hC.2.1, hC.2.2.1, lT, lF, tT, tF, eF, pF, zT, m1F, vT, cI, true_and, and_true, true_implies, false_implies, not_false_eq_true, not_true_eq_false, forall_eq, implies_true, hS.r13, hT2.1, hT2.2.1, hK2.1, hK2.2.1, ek]
  refine Lw.at (mc c) (fun K' j hj hk' => c_leadStep hG hC hS hg hi hrow hf hc1 hj (fun h => absurd h (hn j)) (fun _ => hk')) (fun K' => ?_)
  simp (disch := omega) only [X_X5_memberLeading_19_s, mI_c, mR_c, mJ_c, sI_c, sJ_c, sR_c, hL.1, hL.2.1, hL.2.2, hC.1, hC.2.1, hC.2.2.1, lT, lF, tT, tF, eF, pF, zT, m1F, vT, cI, true_and, and_true, true_implies, false_implies, not_false_eq_true, not_true_eq_false, forall_eq, implies_true, hT2.2.1, ew]
  exact q
/-- one row in the class's walk: it does not lead -/
theorem c_leadRow (hG : Ly G) (hC : StC κ) (hS : RelS sc n mc rt hc κ ρ) (hR : RelR N r0 κ ρ) (hB : RowsB n r0 ρ) {c i : Nat} {x : Int32} (hf : f < 12) (hc1 : c < n) (hi : i < N (rt c)) (hno : ∀ r, r < r0 → mI ρ 1307 r = nI c → RowR κ ρ (rt c) i r → ¬ cdP mc rt ρ f x r) {Q : Int32 → Mem → Prop} {K2 K31 : Int32 × Mem → Prop} (hK : K31 (nI (60 * rt c + (i + 1)), mg κ ρ1)) : X_X5_leadingMember_31_s G Q K2 13 (nI f) x (nI c) (nI (rt c)) K31 (nI (60 * rt c + i), mg κ ρ1) := by
  have hL := hG.1
  have h12 := hS.le
  have hrc := hS.rt12 hc1
  have h60 := (hR.1 (rt c) (by omega)).2
  obtain ⟨r, r1, hrow⟩ := hR.2.2.2.2.1 (rt c) (by omega) i hi
  obtain ⟨d, v, d1, v1, ed, ev⟩ := hB r r1
  have ek := hrow.2.2.1.trans ed
  have ex := hrow.2.1
  simp (disch := omega) only [X_X5_leadingMember_31_s, hL.1, true_and]
  refine c_endOf hL hC hR (by omega) ?_
  simp (disch := omega) only [X_X5_leadingMember_70, X_X5_leadingMember_89, mI_c, mR_c, mJ_c, sI_c, sJ_c, sR_c, hL.1, hL.2.1, hL.2.2, hC.1, hC.2.1, hC.2.2.1, lT, lF, tT, tF, eF, pF, zT, m1F, vT, cI, true_and, and_true, true_implies, false_implies, not_false_eq_true, not_true_eq_false, forall_eq, implies_true, ek, ex, nI_1]
  have e1 : 60 * rt c + i + 1 = 60 * rt c + (i + 1) := by omega
  refine ⟨fun e => ?_, fun _ => by rw [e1]; exact hK⟩
  have edc : d = c := (eI (by omega) (by omega)).mp e
  subst edc
  have ns : ¬ (mI ρ 1305 r = nI f ∧ mI ρ 1306 r = x) → X_X5_memberLeading G (fun w3 s2 => ((w3 = (-1 : Int32) → K31 (nI (60 * rt d + i) + 1, s2)) ∧ (¬ w3 = (-1 : Int32) → Q w3 s2))) 13 (nI (60 * rt d + i)) (nI f) x (mg κ ρ1) := fun hns => by
    refine c_memLead0 hG hC hS (by omega) (by omega) hrow hf d1 ed (fun m h => hno r r1 ed hrow ⟨hns, d, m, by omega, ed, h⟩) (brT rfl ?_)
    rw [nI_1, e1]; exact hK
  simp (disch := omega) only [nI_1] at ns
  refine ⟨fun e2 => ⟨fun _ => by rw [e1]; exact hK, fun e3 => ns (fun h => e3 h.2)⟩, fun e2 => ns (fun h => e2 ?_)⟩
  rw [hrow.1] at h
  exact h.1
theorem c_leadCls (hG : Ly G) (hC : StC κ) (hS : RelS sc n mc rt hc κ ρ) (hR : RelR N r0 κ ρ) (hB : RowsB n r0 ρ) {c : Nat} {x : Int32} (hf : f < 12) (hc1 : c < n) (hno : ∀ r, r < r0 → mI ρ 1307 r = nI c → ¬ cdP mc rt ρ f x r) {Q : Int32 → Mem → Prop} {K2 : Int32 × Mem → Prop} (hK : K2 (nI (c + 1), mg κ ρ1)) : X_X5_leadingMember_2_s G Q 13 (nI f) x K2 (nI c, mg κ ρ1) := by
  have hL := hG.1
  have hT2 := hG.s hS.s2
  have hs2 := hS.s2
  have h12 := hS.le
  have hrc := hS.rt12 hc1
  have h60 := (hR.1 (rt c) (by omega)).2
  simp (disch := omega) only [X_X5_leadingMember_2_s, mI_c, mR_c, mJ_c, sI_c, sJ_c, sR_c, hL.1, hL.2.1, hL.2.2, hC.1, hC.2.1, hC.2.2.1, lT, lF, tT, tF, eF, pF, zT, m1F, vT, cI, true_and, and_true, true_implies, false_implies, not_false_eq_true, not_true_eq_false, forall_eq, implies_true, hS.r13, hT2.1, hS.nC]
  refine c_rootOf1 hG hC hS hc1 (c_firstOf (by omega) ?_)
  unfold X_X5_leadingMember_31
  refine Lw.seq (fun i => (nI (60 * rt c + i), mg κ ρ1)) (N (rt c)) (fun K' i hi hk' => c_leadRow hG hC hS hR hB hf hc1 hi (fun r r1 r2 _ => hno r r1 r2) hk') (fun K' => ?_)
  simp (disch := omega) only [X_X5_leadingMember_31_s, hL.1, true_and]
  refine c_endOf hL hC hR (by omega) (brT (Int32.le_refl _) ?_)
  rw [nI_1]; exact hK
theorem c_leading0 (hG : Ly G) (hC : StC κ) (hS : RelS sc n mc rt hc κ ρ) (hR : RelR N r0 κ ρ) (hB : RowsB n r0 ρ) {x : Int32} (hf : f < 12) (hno : ∀ r, r < r0 → ¬ cdP mc rt ρ f x r) {Q : Int32 → Mem → Prop} (q : Q (-1) (mg κ ρ1)) : X_X5_leadingMember G Q 13 (nI f) x (mg κ ρ1) := by
  have hL := hG.1
  have hT2 := hG.s hS.s2
  have hs2 := hS.s2
  have h12 := hS.le
  simp only [X_X5_leadingMember, X_X5_leadingMember_0, X_X5_leadingMember_2]
  refine Lw.at n (fun K' c hc hk' => c_leadCls hG hC hS hR hB hf hc (fun r r1 _ => hno r r1) hk') (fun K' => ?_)
  simp (disch := omega) only [X_X5_leadingMember_2_s, mI_c, mR_c, mJ_c, sI_c, sJ_c, sR_c, hL.1, hL.2.1, hL.2.2, hC.1, hC.2.1, hC.2.2.1, lT, lF, tT, tF, eF, pF, zT, m1F, vT, cI, true_and, and_true, true_implies, false_implies, not_false_eq_true, not_true_eq_false, forall_eq, implies_true, hS.r13, hT2.1, hS.nC]
  exact q
theorem c_leading1 (hG : Ly G) (hC : StC κ) (hS : RelS sc n mc rt hc κ ρ) (hR : RelR N r0 κ ρ) (hB : RowsB n r0 ρ) (hY : RowsW n r0 mc rt K ρ) {x : Int32} {b c m0 : Nat} (hf : f < 12) (hb : b < r0) (hc1 : c < n) (ec : mI ρ 1307 b = nI c) (hcd : cdP mc rt ρ f x b) (hmin : ∀ r, r < r0 → cdP mc rt ρ f x r → rkR ρ b ≤ rkR ρ r) (h0 : lmP mc rt ρ c b f x m0) (hn : ∀ m, m < m0 → ¬ lmP mc rt ρ c b f x m) {Q : Int32 → Mem → Prop} (q : Q (nI m0) (mg κ ρ1)) : X_X5_leadingMember G Q 13 (nI f) x (mg κ ρ1) := by
  have hL := hG.1
  have hT2 := hG.s hS.s2
  have hs2 := hS.s2
  have h12 := hS.le
  have hrc := hS.rt12 hc1
  have h60 := (hR.1 (rt c) (by omega)).2
  obtain ⟨cb, vb, cb1, vb1, ecb, evb⟩ := hB b hb
  have : cb = c := (eI (by omega) (by omega)).mp (ecb.symm.trans ec)
  subst this
  have rb : rkR ρ b = 1000 * cb + vb := by unfold rkR; rw [ecb, evb, cI (by omega), cI (by omega)]
  have rr : ∀ r, r < r0 → ∀ d, d < n → mI ρ 1307 r = nI d → ∃ y, y < 1000 ∧ mI ρ 1306 r = nI y ∧ rkR ρ r = 1000 * d + y := fun r hr d hd ed => by
    obtain ⟨d', y, d1, y1, ed', ey⟩ := hB r hr
    have : d' = d := (eI (by omega) (by omega)).mp (ed'.symm.trans ed)
    subst this
    exact ⟨y, y1, ey, by unfold rkR; rw [ed', ey, cI (by omega), cI (by omega)]⟩
  -- where it lies
  obtain ⟨g, hg, ib, hib, hrow⟩ := hR.2.2.2.2.2.1 b hb
  have eg : g = rt cb := by
    obtain ⟨f', c', x', a1, a2, a3, a4, a5, -⟩ := hY b hb
    have e1 : g = f' := (eI (by omega) (by omega)).mp (hrow.1.symm.trans a2)
    have e2 : c' = cb := (eI (by omega) (by omega)).mp (a4.symm.trans ecb)
    rw [e1, ← a5, e2]
  subst eg
  have h16 := hS.m16 hc1
  have hm0 := h0.1
  simp only [X_X5_leadingMember, X_X5_leadingMember_0, X_X5_leadingMember_2]
  refine Lw.at cb (fun K' c hc hk' => c_leadCls hG hC hS hR hB hf (by omega) (fun r r1 r2 h => ?_) hk') (fun K' => ?_)
  · obtain ⟨y, y1, y2, y3⟩ := rr r r1 c (by omega) r2
    have := hmin r r1 h
    omega
  · simp (disch := omega) only [X_X5_leadingMember_2_s, mI_c, mR_c, mJ_c, sI_c, sJ_c, sR_c, hL.1, hL.2.1, hL.2.2, hC.1, hC.2.1, hC.2.2.1, lT, lF, tT, tF, eF, pF, zT, m1F, vT, cI, true_and, and_true, true_implies, false_implies, not_false_eq_true, not_true_eq_false, forall_eq, implies_true, hS.r13, hT2.1, hS.nC]
    refine c_rootOf1 hG hC hS hc1 (c_firstOf (by omega) ?_)
    unfold X_X5_leadingMember_31
    refine Lw.seq (fun i => (nI (60 * rt cb + i), mg κ ρ1)) ib (fun K' i hi hk' => c_leadRow hG hC hS hR hB hf hc1 (by omega) (fun r r1 r2 r3 h => ?_) hk') (fun K' => ?_)
    · obtain ⟨y, y1, y2, y3⟩ := rr r r1 cb hc1 r2
      have m1 := hmin r r1 h
      have m2 := hR.2.2.2.1 (rt cb) (by omega) i ib hi hib
      rw [r3.2.1, hrow.2.1, y2, evb] at m2
      have := (tI (by omega) (by omega)).mp m2
      omega
    · have ek := hrow.2.2.1.trans ecb
      have ex := hrow.2.1
      have e71 := hrow.1
      have hcd1 := hcd.1
      simp (disch := omega) only [X_X5_leadingMember_31_s, hL.1, true_and]
      refine c_endOf hL hC hR (by omega) ?_
      simp (disch := omega) only [X_X5_leadingMember_70, X_X5_leadingMember_89, mI_c, mR_c, mJ_c, sI_c, sJ_c, sR_c, hL.1, hL.2.1, hL.2.2, hC.1, hC.2.1, hC.2.2.1, lT, lF, tT, tF, eF, pF, zT, m1F, vT, cI, true_and, and_true, true_implies, false_implies, not_false_eq_true, not_true_eq_false, forall_eq, implies_true, ek, ex, nI_1]
      have ml : X_X5_memberLeading G (fun w3 s2 => ((w3 = (-1 : Int32) → K' (nI (60 * rt cb + ib + 1), s2)) ∧ (¬ w3 = (-1 : Int32) → Q w3 s2))) 13 (nI (60 * rt cb + ib)) (nI f) x (mg κ ρ1) := c_memLead1 hG hC hS (by omega) (by omega) hrow hf hc1 ecb h0 hn (brF (mI1 (by omega)) q)
      refine ⟨fun e2 => brF (fun e3 => hcd1 ⟨by rw [e71]; exact e2, e3⟩) ml, fun _ => ml⟩
end LEADS
