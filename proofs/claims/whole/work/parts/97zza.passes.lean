/-! the reference's passes over all classes' members -/
theorem Lw.nest {ι : Type} (Fo : ι → (Int32 × Mem → Prop) → Int32 × Mem → Prop) (Fi : ι → (Int32 × Mem → Prop) → Nat → (Int32 × Mem → Prop) → Int32 × Mem → Prop) (g : Mem → ι → Mem) (n : Nat) (mc : Nat → Nat) (J : Nat → Nat → Mem → Prop)
    (ho : ∀ c ρ, c < n → J c 0 ρ → ∀ q K, Lw (Fi q K c) (0, g ρ q) → Fo q K (nI (13 + c), g ρ q))
    (he : ∀ c ρ, c < n → J c (mc c) ρ → J (c + 1) 0 ρ ∧ ∀ q K K2, K (nI (13 + (c + 1)), g ρ q) → Fi q K c K2 (nI (mc c), g ρ q))
    (hs : ∀ c m ρ, c < n → m < mc c → J c m ρ → ∃ ρ', J c (m + 1) ρ' ∧ ∀ q K K2, K2 (nI (m + 1), g ρ' q) → Fi q K c K2 (nI m, g ρ q)) (ρ : Mem) (h : J 0 0 ρ) :
    ∃ ρ', J n 0 ρ' ∧ ∀ q, (∀ K, Fo q K (nI (13 + n), g ρ' q)) → Lw (Fo q) (13, g ρ q) := by
  obtain ⟨⟨b1, ρa⟩, ⟨hb, hJ⟩, run⟩ := Lw.run (ι := ι) Fo (fun (b : Nat × Mem) z => (nI (13 + b.1), g b.2 z)) n (fun i b => b.1 = i ∧ J i 0 b.2) (by
    rintro i ⟨b1, ρb⟩ hi ⟨hb, hJ⟩
    have hb : b1 = i := hb
    subst hb
    have hJ : J b1 0 ρb := hJ
    obtain ⟨⟨b2, ρc⟩, ⟨hb2, hJ2⟩, run⟩ := Lw.run (ι := ι × (Int32 × Mem → Prop)) (fun z => Fi z.1 z.2 b1) (fun (b : Nat × Mem) z => (nI b.1, g b.2 z.1)) (mc b1) (fun m b => b.1 = m ∧ J b1 m b.2) (by
      rintro m ⟨b2, ρd⟩ hm ⟨hb, hJ⟩
      have hb : b2 = m := hb
      subst hb
      obtain ⟨ρ', h1, h2⟩ := hs b1 b2 ρd hi hm hJ
      exact ⟨(b2 + 1, ρ'), ⟨rfl, h1⟩, fun q K hK => h2 q.1 q.2 K hK⟩) 0 (Nat.zero_le _) (0, ρb) ⟨rfl, hJ⟩
    have hb2 : b2 = mc b1 := hb2
    subst hb2
    obtain ⟨h1, h2⟩ := he b1 ρc hi hJ2
    exact ⟨(b1 + 1, ρc), ⟨rfl, h1⟩, fun q K hK => ho b1 ρb hi hJ q K (run (q, K) fun K2 => h2 q K K2 hK)⟩) 0 (Nat.zero_le _) (0, ρ) ⟨rfl, h⟩
  have hb : b1 = n := hb
  subst hb
  exact ⟨ρa, hJ, fun q hq => run q hq⟩
theorem lexS {mc : Nat → Nat} {c c' m' : Nat} (h1 : c' < c + 1 ∨ c' = c + 1 ∧ m' < 0) (h3 : m' < mc c') : c' < c ∨ c' = c ∧ m' < mc c := by
  by_cases e : c' = c
  · subst e; exact Or.inr ⟨rfl, h3⟩
  · exact Or.inl (by omega)
section PAS
variable {G : Lay} {κ κ' ρ ρ' ρ1 κ1 : Mem} {sd s n nw c m t : Nat} {mc rt hc ow tb : Nat → Nat} {v : Int64} {Q : Int32 → Mem → Prop}
/-- a member's place is its own -/
theorem DB.owner (h : DB sd n nw mc rt hc ow tb κ ρ) (hcn : c < n) (hm : m < mc c) : ∃ o, o ≤ c ∧ ow o ≤ m ∧ m < mc o ∧ mI ρ 1296 (16 * (13 + c) + m) = nI o ∧ mR κ (sd + 5 + 5 * c) m = sd + 64 + tb o + (m - ow o) ∧ mI ρ 1290 (16 * (13 + c) + m) = mI ρ 1290 (16 * (13 + o) + m) ∧ (o = c ↔ ow c ≤ m) := by
  obtain ⟨o, o1, o2, o3, o4, o5, o6, o7, o8, o9, o10, o11⟩ := h.own c hcn m hm
  have e0 : mI ρ 1296 (16 * (13 + o) + m) = nI o := ((h.1 o (by omega)).2.2.1 m o2 o3).2.1.2
  refine ⟨o, o1, o2, o3, o11.trans e0, o5, o7, fun e => ?_, fun e => ?_⟩
  · subst e; exact o2
  · have e2 : mI ρ 1296 (16 * (13 + c) + m) = nI c := ((h.1 c hcn).2.2.1 m e hm).2.1.2
    have h12 := h.2.2.1
    exact ((eI (by omega) (by omega)).mp (e2.symm.trans (o11.trans e0))).symm
def ps1 (mc : Nat → Nat) (n : Nat) (ρ : Mem) (c0 m0 : Nat) (ρ' : Mem) : Prop := StM ρ' ∧ Eqv (fun a k => ¬ (a = 1291 ∧ 208 ≤ k)) ρ ρ' ∧ ∀ c m, (c < c0 ∨ c = c0 ∧ m < m0) → c < n → m < mc c → mI ρ 1296 (16 * (13 + c) + m) = nI c → (∃ kd, 4 ≤ kd ∧ kd ≤ 5 ∧ mI ρ 1290 (16 * (13 + c) + m) = nI kd) → mI ρ' 1291 (16 * (13 + c) + m) = tgM ρ n (16 * (13 + c) + m)
theorem m_pass1 (hM : LyM G) (hm : StM ρ) (hR : DRf sd n nw mc rt hc ow tb κ ρ) : ∃ ρ', ps1 mc n ρ n 0 ρ' ∧ ∀ κ1 (Q : Int32 → Mem → Prop), X_X12_readClasses_147 G Q 1282 13 (mg κ1 ρ') → X_X12_readClasses_54 G Q 1282 13 (mg κ1 ρ) := by
  obtain ⟨hB, hN, -, q4, q5⟩ := id hR
  have h12 := hB.2.2.1
  have law := hB.2.1.2
  have n13 : (13 : Int32) = nI 13 := rfl
  have n16 : (16 : Int32) = nI 16 := rfl
  have n4 : (4 : Int32) = nI 4 := rfl
  obtain ⟨ρ', hJ, run⟩ := Lw.nest (ι := Mem × (Int32 → Mem → Prop)) (fun q => X_X12_readClasses_54_s G q.2 1282) (fun q K c => X_X12_readClasses_67_s G q.2 K 1282 (nI (13 + c))) (fun ρ q => mg q.1 ρ) n mc (ps1 mc n ρ) (by
      rintro c ρ' hcn ⟨hm', fr, ff⟩ q K hh
      have e56 : mI ρ' 1282 56 = nI n := (fr.I (by omega)).trans q4
      have hm := hm'
      show X_X12_readClasses_54_s G q.2 1282 K (nI (13 + c), mg q.1 ρ')
      simp (disch := omega) only [X_X12_readClasses_54_s, mI_m, mR_m, mJ_m, sI_m, sJ_m, hM.1, hM.2, hm.1, hm.2, e56, n13, nI_add, lT, lF, tT, tF, eF, pF, zT, m1F, vT, cI, true_and, and_true, true_implies, false_implies, not_false_eq_true, not_true_eq_false, forall_eq, implies_true]
      exact hh) (by
      rintro c ρ' hcn ⟨hm', fr, ff⟩
      refine ⟨⟨hm', fr, fun c' m' h1 h2 h3 => ff c' m' (lexS h1 h3) h2 h3⟩, fun q K K2 hK => ?_⟩
      have e87 : mI ρ' 1287 (13 + c) = nI (mc c) := (fr.I (by omega)).trans (hN c hcn).1.2
      have := law c hcn
      have hm := hm'
      show X_X12_readClasses_67_s G q.2 K 1282 (nI (13 + c)) K2 (nI (mc c), mg q.1 ρ')
      simp (disch := omega) only [X_X12_readClasses_67_s, mI_m, mR_m, mJ_m, sI_m, sJ_m, hM.1, hM.2, hm.1, hm.2, e87, nI_add, nI_1, lT, lF, tT, tF, eF, pF, zT, m1F, vT, cI, true_and, and_true, true_implies, false_implies, not_false_eq_true, not_true_eq_false, forall_eq, implies_true]
      rw [show 13 + c + 1 = 13 + (c + 1) by omega]
      exact hK) (by
      rintro c m ρ' hcn hmc ⟨hm', fr, ff⟩
      have e87 : mI ρ' 1287 (13 + c) = nI (mc c) := (fr.I (by omega)).trans (hN c hcn).1.2
      have e56 : mI ρ' 1282 56 = nI n := (fr.I (by omega)).trans q4
      have lc := law c hcn
      obtain ⟨o, o1, o2, o3, o4, o5, o6, o7⟩ := hB.owner hcn hmc
      have e96 : mI ρ' 1296 (16 * (13 + c) + m) = nI o := (fr.I (by omega)).trans o4
      obtain ⟨-, -, kd, kd1, kd2, kd3⟩ := hB.mem hcn hmc
      have e90 : mI ρ' 1290 (16 * (13 + c) + m) = nI kd := (fr.I (by omega)).trans kd3
      have sub : nI (13 + c) - nI 13 = nI c := by rw [pk_sub (by omega), show 13 + c - 13 = c by omega]
      have hm := hm'
      by_cases hoc : o = c ∧ 4 ≤ kd
      · obtain ⟨rfl, h4⟩ := hoc
        have et : tgM ρ' n (16 * (13 + o) + m) = tgM ρ n (16 * (13 + o) + m) := by
          unfold tgM
          rw [fr.J (a := 1297) (k := 16 * (13 + o) + m) (by omega)]
          exact fdx_x fun j hj => fr.J (by omega)
        refine ⟨sI ρ' 1291 (16 * (13 + o) + m) (tgM ρ n (16 * (13 + o) + m)), ⟨hm'.wI _ _ _, fr.sI (fun h => h (by omega)) _, fun c' m' h1 h2 h3 h4 h5 => ?_⟩, fun q K K2 hK => ?_⟩
        · by_cases e : c' = o ∧ m' = m
          · obtain ⟨rfl, rfl⟩ := e; exact I_is _ _ _ _
          · have := law c' h2
            rw [I_sl (by omega)]; exact ff c' m' (by omega) h2 h3 h4 h5
        · show X_X12_readClasses_67_s G q.2 K 1282 (nI (13 + o)) K2 (nI m, mg q.1 ρ')
          simp (disch := omega) only [X_X12_readClasses_67_s, mI_m, mR_m, mJ_m, sI_m, sJ_m, hM.1, hM.2, hm.1, hm.2, e87, e96, e90, e56, n16, n4, pk_mul, nI_add, nI_1, lT, lF, tT, tF, eF, pF, zT, m1F, vT, cI, true_and, and_true, true_implies, false_implies, not_false_eq_true, not_true_eq_false, forall_eq, implies_true]
          refine brT (by rw [n13, sub]) ?_
          refine m_clsNamed hM hm h12 ?_
          show X_X12_readClasses_132 G q.2 K K2 1282 (nI (13 + o)) (nI m) (sI (mg q.1 ρ') 1291 (16 * (13 + o) + m) (tgM ρ' n (16 * (13 + o) + m)))
          rw [et]
          simp (disch := omega) only [X_X12_readClasses_132, mI_m, mR_m, mJ_m, sI_m, sJ_m, hM.1, hM.2, hm.1, hm.2, lT, lF, tT, tF, eF, pF, zT, m1F, vT, cI, true_and, and_true, true_implies, false_implies, not_false_eq_true, not_true_eq_false, forall_eq, implies_true, I_is, I_cl, I_sl, J_is, J_cl, J_sl, R_is, R_cl, R_sl, mI_sJ, mI_sR, mJ_sI, mJ_sR, mR_sI, mR_sJ, nI_1]
          exact hK
      · refine ⟨ρ', ⟨hm', fr, fun c' m' h1 h2 h3 h4 h5 => ?_⟩, fun q K K2 hK => ?_⟩
        · by_cases e : c' = c ∧ m' = m
          · obtain ⟨rfl, rfl⟩ := e
            obtain ⟨k2, k3, k4, k5⟩ := h5
            rw [kd3] at k5
            rw [o4] at h4
            have := (eI (by omega) (by omega)).mp k5
            have := (eI (by omega) (by omega)).mp h4
            omega
          · exact ff c' m' (by omega) h2 h3 h4 h5
        · show X_X12_readClasses_67_s G q.2 K 1282 (nI (13 + c)) K2 (nI m, mg q.1 ρ')
          simp (disch := omega) only [X_X12_readClasses_67_s, X_X12_readClasses_132, mI_m, mR_m, mJ_m, sI_m, sJ_m, hM.1, hM.2, hm.1, hm.2, e87, e96, e90, e56, n16, n4, pk_mul, nI_add, nI_1, lT, lF, tT, tF, eF, pF, zT, m1F, vT, cI, true_and, and_true, true_implies, false_implies, not_false_eq_true, not_true_eq_false, forall_eq, implies_true]
          by_cases eo : o = c
          · exact brT (by rw [n13, sub, eo]) (brF (fun h => hoc ⟨eo, (lI (by omega) (by omega)).mp h⟩) hK)
          · exact brF (by rw [n13, sub]; exact fun h => eo ((eI (by omega) (by omega)).mp h)) hK) ρ ⟨hm, Eqv.rf, fun c' m' h1 => by omega⟩
  refine ⟨ρ', hJ, fun κ1 Q hQ => ?_⟩
  obtain ⟨hm', fr, ff⟩ := hJ
  have e56 : mI ρ' 1282 56 = nI n := (fr.I (by omega)).trans q4
  refine run (κ1, Q) (fun K => ?_)
  show X_X12_readClasses_54_s G Q 1282 K (nI (13 + n), mg κ1 ρ')
  have hm := hm'
  simp (disch := omega) only [X_X12_readClasses_54_s, mI_m, mR_m, mJ_m, sI_m, sJ_m, hM.1, hM.2, hm.1, hm.2, e56, n13, nI_add, lT, lF, tT, tF, eF, pF, zT, m1F, vT, cI, true_and, and_true, true_implies, false_implies, not_false_eq_true, not_true_eq_false, forall_eq, implies_true]
  exact hQ
end PAS
