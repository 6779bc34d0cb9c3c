section KEEP
variable {G : Lay} {κ κ' ρ ρ' κ1 ρ1 : Mem} {N : Nat → Nat}
/-- a Rows' cells -/
def RwS (G : Lay) (d da : Nat) : Prop := (gT G d = 6 ∧ d < 1282 ∧ da + 4 < 1282) ∧ (gT G da = 100 ∧ gT G (da + 1) = 100 ∧ gT G (da + 2) = 100 ∧ gT G (da + 3) = 100 ∧ gT G (da + 4) = 100) ∧ (gL G da = 12 ∧ gL G (da + 1) = 720 ∧ gL G (da + 2) = 720 ∧ gL G (da + 3) = 720 ∧ gL G (da + 4) = 11520) ∧ ∀ κ, StC κ → mR κ d 1 = da ∧ mR κ d 2 = da + 1 ∧ mR κ d 3 = da + 2 ∧ mR κ d 4 = da + 3 ∧ mR κ d 5 = da + 4
theorem RwS.a (hL : LyC G) : RwS G 13 270 := by
  refine ⟨⟨?_, by decide, by decide⟩, ⟨?_, ?_, ?_, ?_, ?_⟩, ⟨?_, ?_, ?_, ?_, ?_⟩, fun κ hC => ⟨?_, ?_, ?_, ?_, ?_⟩⟩
  all_goals first | simp only [hL.1] | simp only [hC.1]
theorem RwS.b (hL : LyC G) : RwS G 1275 1276 := by
  refine ⟨⟨?_, by decide, by decide⟩, ⟨?_, ?_, ?_, ?_, ?_⟩, ⟨?_, ?_, ?_, ?_, ?_⟩, fun κ hC => ⟨?_, ?_, ?_, ?_, ?_⟩⟩
  all_goals first | simp only [hL.1] | simp only [hC.1]
/-- a family's cells in it -/
def famS (da f a k : Nat) : Prop := a = da ∧ k = f ∨ da + 1 ≤ a ∧ a ≤ da + 3 ∧ 60 * f ≤ k ∧ k < 60 * f + 60 ∨ a = da + 4 ∧ 960 * f ≤ k ∧ k < 960 * f + 960
def CopF (da sa : Nat) (N : Nat → Nat) (κ κ' : Mem) (f : Nat) : Prop := mI κ' da f = nI (N f) ∧ ∀ j, j < N f → mI κ' (da + 1) (60 * f + j) = mI κ (sa + 1) (60 * f + j) ∧ mI κ' (da + 2) (60 * f + j) = mI κ (sa + 2) (60 * f + j) ∧ mI κ' (da + 3) (60 * f + j) = mI κ (sa + 3) (60 * f + j) ∧ ∀ m, m < 16 → mI κ' (da + 4) (16 * (60 * f + j) + m) = mI κ (sa + 4) (16 * (60 * f + j) + m)
theorem cpTT {G : Lay} {a b i j n : Nat} (h1 : i + n ≤ gL G a) (h2 : j + n ≤ gL G b) (h3 : i + n < 2147483648) (h4 : j + n < 2147483648) : cpOk G a (nI i) b (nI j) (nI n) = True := eq_true (cpT h1 h2 h3 h4)
theorem c_copyLoop {d s da sa : Nat} (hd : RwS G d da) (hs : RwS G s sa) (hx : da + 4 < sa ∨ sa + 4 < da) : ∀ e i, i + e = 12 → ∀ κ, StC κ → (∀ f, f < 12 → mI κ sa f = nI (N f) ∧ N f ≤ 60) →
    ∃ κ', (∀ ρ1 (Q : Mem → Prop), Q (mg κ' ρ1) → Lw (X_X5_copyFrom_2_s G Q d s) (nI i, mg κ ρ1)) ∧ StC κ' ∧ Eqv (fun a k => ¬ ∃ f, i ≤ f ∧ f < 12 ∧ famS da f a k) κ κ' ∧ ∀ f, i ≤ f → f < 12 → CopF da sa N κ κ' f := by
  intro e
  obtain ⟨⟨d1, d2, d3⟩, ⟨d4, d5, d6, d7, d8⟩, ⟨d9, d10, d11, d12, d13⟩, d14⟩ := hd
  obtain ⟨⟨s1, s2, s3⟩, ⟨s4, s5, s6, s7, s8⟩, ⟨s9, s10, s11, s12, s13⟩, s14⟩ := hs
  have n12 : (12 : Int32) = nI 12 := rfl
  have n60 : (60 : Int32) = nI 60 := rfl
  have n16 : (16 : Int32) = nI 16 := rfl
  induction e with
  | zero =>
    intro i hi κ hC hN
    refine ⟨κ, fun ρ1 Q hQ => Lw.fin (fun K => ?_), hC, Eqv.rf, fun f h1 h2 => by omega⟩
    obtain rfl : i = 12 := by omega
    exact brT (by decide) hQ
  | succ e ih =>
    intro i hi κ hC hN
    obtain ⟨z1, z2, z3, z4, z5⟩ := d14 κ hC
    obtain ⟨y1, y2, y3, y4, y5⟩ := s14 κ hC
    obtain ⟨x1, x2⟩ := hN i (by omega)
    have fr : Eqv (fun a k => ¬ famS da i a k) κ (sC (sC (sC (sC (sI κ da i (nI (N i))) (sa + 1) (i * 60) (da + 1) (i * 60) (N i)) (sa + 2) (i * 60) (da + 2) (i * 60) (N i)) (sa + 3) (i * 60) (da + 3) (i * 60) (N i)) (sa + 4) (i * 60 * 16) (da + 4) (i * 60 * 16) (N i * 16)) := by
      refine (((((Eqv.wI ?_ _).sC ?_).sC ?_).sC ?_).sC ?_)
      · exact fun h => h (Or.inl ⟨rfl, rfl⟩)
      · exact fun k h1 h2 h => h (Or.inr (Or.inl ⟨by omega, by omega, by omega, by omega⟩))
      · exact fun k h1 h2 h => h (Or.inr (Or.inl ⟨by omega, by omega, by omega, by omega⟩))
      · exact fun k h1 h2 h => h (Or.inr (Or.inl ⟨by omega, by omega, by omega, by omega⟩))
      · exact fun k h1 h2 h => h (Or.inr (Or.inr ⟨rfl, by omega, by omega⟩))
    have src : ∀ a k, sa ≤ a → a ≤ sa + 4 → mI (sC (sC (sC (sC (sI κ da i (nI (N i))) (sa + 1) (i * 60) (da + 1) (i * 60) (N i)) (sa + 2) (i * 60) (da + 2) (i * 60) (N i)) (sa + 3) (i * 60) (da + 3) (i * 60) (N i)) (sa + 4) (i * 60 * 16) (da + 4) (i * 60 * 16) (N i * 16)) a k = mI κ a k := fun a k h1 h2 => fr.I (fun h => by
      rcases h with h | h | h <;> omega)
    obtain ⟨κ', r1, r2, r3, r4⟩ := ih (i + 1) (by omega) (sC (sC (sC (sC (sI κ da i (nI (N i))) (sa + 1) (i * 60) (da + 1) (i * 60) (N i)) (sa + 2) (i * 60) (da + 2) (i * 60) (N i)) (sa + 3) (i * 60) (da + 3) (i * 60) (N i)) (sa + 4) (i * 60 * 16) (da + 4) (i * 60 * 16) (N i * 16)) (((((hC.wI _ _ _).wC _ _ _ _ _).wC _ _ _ _ _).wC _ _ _ _ _).wC _ _ _ _ _) (fun f hf => by rw [src _ _ (by omega) (by omega)]; exact hN f hf)
    refine ⟨κ', fun ρ1 Q hQ => Lw.stp (fun K hK => ?_) (r1 ρ1 Q hQ), r2, (fr.mo fun a k h => ?_).tr (r3.mo fun a k h => ?_), fun f h1 h2 => ?_⟩
    · simp (disch := omega) only [X_X5_copyFrom_2_s, n12, n60, n16, pk_mul, lT, lF, tT, tF, eF, pF, zT, m1F, vT, cI, true_and, and_true, true_implies, false_implies, not_false_eq_true, not_true_eq_false, forall_eq, implies_true, mI_c, mR_c, sI_c, sC_c, d1, d4, d5, d6, d7, d8, d9, d10, d11, d12, d13, s1, s4, s5, s6, s7, s8, s9, s10, s11, s12, s13, z1, z2, z3, z4, z5, y1, y2, y3, y4, y5, x1, mR_sI, sC_R, cpTT, nI_1]
      exact hK
    · exact fun h2 => h ⟨i, Nat.le_refl _, by omega, h2⟩
    · rintro ⟨f, f1, f2, f3⟩
      exact h ⟨f, by omega, f2, f3⟩
    · by_cases e1 : f = i
      · subst e1
        have out : ∀ a k, famS da f a k → ¬ ∃ g, f + 1 ≤ g ∧ g < 12 ∧ famS da g a k := by
          rintro a k h ⟨g, g1, g2, h3⟩
          rcases h with h | h | h <;> rcases h3 with h3 | h3 | h3 <;> omega
        refine ⟨?_, fun j hj => ⟨?_, ?_, ?_, fun m hm => ?_⟩⟩
        · rw [r3.I (out _ _ (Or.inl ⟨rfl, rfl⟩)), sC_cl (by omega), sC_cl (by omega), sC_cl (by omega), sC_cl (by omega), I_is]
        · rw [r3.I (out _ _ (Or.inr (Or.inl ⟨by omega, by omega, by omega, by omega⟩))), sC_cl (by omega), sC_cl (by omega), sC_cl (by omega), sC_in (by omega) (by omega), I_cl (by omega)]
          congr 1; omega
        · rw [r3.I (out _ _ (Or.inr (Or.inl ⟨by omega, by omega, by omega, by omega⟩))), sC_cl (by omega), sC_cl (by omega), sC_in (by omega) (by omega), sC_cl (by omega), I_cl (by omega)]
          congr 1; omega
        · rw [r3.I (out _ _ (Or.inr (Or.inl ⟨by omega, by omega, by omega, by omega⟩))), sC_cl (by omega), sC_in (by omega) (by omega), sC_cl (by omega), sC_cl (by omega), I_cl (by omega)]
          congr 1; omega
        · rw [r3.I (out _ _ (Or.inr (Or.inr ⟨rfl, by omega, by omega⟩))), sC_in (by omega) (by omega), sC_cl (by omega), sC_cl (by omega), sC_cl (by omega), I_cl (by omega)]
          congr 1; omega
      · obtain ⟨q1, q2⟩ := r4 f (by omega) h2
        refine ⟨q1, fun j hj => ?_⟩
        obtain ⟨q3, q4, q5, q6⟩ := q2 j hj
        rw [src _ _ (by omega) (by omega)] at q3 q4 q5
        refine ⟨q3, q4, q5, fun m hm => ?_⟩
        rw [q6 m hm, src _ _ (by omega) (by omega)]
theorem c_copyFrom {d s da sa : Nat} (hd : RwS G d da) (hs : RwS G s sa) (hx : da + 4 < sa ∨ sa + 4 < da) (hC : StC κ) (hN : ∀ f, f < 12 → mI κ sa f = nI (N f) ∧ N f ≤ 60) :
    ∃ κ', RunC0 (fun Q σ => X_X5_copyFrom G Q d s σ) κ κ' ∧ StC κ' ∧ Eqv (fun a _ => ¬ (da ≤ a ∧ a ≤ da + 4)) κ κ' ∧ ∀ f, f < 12 → CopF da sa N κ κ' f := by
  obtain ⟨κ', r1, r2, r3, r4⟩ := c_copyLoop hd hs hx 12 0 (by omega) κ hC hN
  refine ⟨κ', fun ρ1 Q hQ => ?_, r2, r3.mo (fun a k h => ?_), fun f hf => r4 f (by omega) hf⟩
  · simp only [X_X5_copyFrom, X_X5_copyFrom_0, X_X5_copyFrom_2]
    exact r1 ρ1 Q hQ
  · rintro ⟨f, f1, f2, f3⟩
    rcases f3 with f3 | f3 | f3 <;> omega
theorem m_keepRows (hM : LyM G) (hm : StM ρ) {r0 : Nat} (hr : r0 ≤ 720) (e26 : mI ρ 1282 26 = nI r0) :
    ∃ ρ', RunM0 (fun Q σ => X_X12_keepRows G Q 1282 σ) ρ ρ' ∧ StM ρ' ∧ Eqv (fun a k => ¬ (a = 1282 ∧ k = 33 ∨ 1311 ≤ a ∧ a ≤ 1315)) ρ ρ' ∧ mI ρ' 1282 33 = nI r0 ∧ (∀ r, r < r0 → mI ρ' 1311 r = mI ρ 1305 r ∧ mI ρ' 1312 r = mI ρ 1306 r ∧ mI ρ' 1313 r = mI ρ 1307 r ∧ mI ρ' 1314 r = mI ρ 1308 r) ∧ ∀ k, k < 16 * r0 → mI ρ' 1315 k = mI ρ 1309 k := by
  have n16 : (16 : Int32) = nI 16 := rfl
  -- the first loop
  obtain ⟨⟨b1, ρa⟩, ⟨hb, hma, fra, fa⟩, run⟩ := Lw.run (ι := Mem × (Mem → Prop)) (fun z => X_X12_keepRows_10_s G z.2 1282) (fun (b : Nat × Mem) z => (nI b.1, mg z.1 b.2)) r0 (fun i b => b.1 = i ∧ StM b.2 ∧ Eqv (fun a _ => ¬ (1311 ≤ a ∧ a ≤ 1314)) (sI ρ 1282 33 (nI r0)) b.2 ∧ ∀ r, r < i → mI b.2 1311 r = mI ρ 1305 r ∧ mI b.2 1312 r = mI ρ 1306 r ∧ mI b.2 1313 r = mI ρ 1307 r ∧ mI b.2 1314 r = mI ρ 1308 r) (by
    rintro i ⟨b1, ρb⟩ hi ⟨hb, hm, fr, ff⟩
    have hb : b1 = i := hb
    subst hb
    have hm : StM ρb := hm
    have fr : Eqv _ (sI ρ 1282 33 (nI r0)) ρb := fr
    have e : mI ρb 1282 26 = nI r0 := by rw [fr.I (by omega)]; rw [I_sl (by decide)]; exact e26
    have sv : ∀ a, 1305 ≤ a → a ≤ 1308 → mI ρb a b1 = mI ρ a b1 := fun a h1 h2 => by rw [fr.I (by omega), I_cl (by omega)]
    refine ⟨(b1 + 1, sI (sI (sI (sI ρb 1311 b1 (mI ρ 1305 b1)) 1312 b1 (mI ρ 1306 b1)) 1313 b1 (mI ρ 1307 b1)) 1314 b1 (mI ρ 1308 b1)), ⟨rfl, (((hm.wI _ _ _).wI _ _ _).wI _ _ _).wI _ _ _, (((fr.sI (by omega) _).sI (by omega) _).sI (by omega) _).sI (by omega) _, fun r hr2 => ?_⟩, fun z K hK => ?_⟩
    · show mI (sI (sI (sI (sI ρb _ _ _) _ _ _) _ _ _) _ _ _) 1311 r = _ ∧ mI (sI (sI (sI (sI ρb _ _ _) _ _ _) _ _ _) _ _ _) 1312 r = _ ∧ mI (sI (sI (sI (sI ρb _ _ _) _ _ _) _ _ _) _ _ _) 1313 r = _ ∧ mI (sI (sI (sI (sI ρb _ _ _) _ _ _) _ _ _) _ _ _) 1314 r = _
      by_cases e1 : r = b1
      · subst e1
        simp (disch := omega) only [I_is, I_cl, and_self]
      · simp (disch := omega) only [I_cl, I_sl]
        exact ff r (by omega)
    · show X_X12_keepRows_10_s G z.2 1282 K (nI b1, mg z.1 ρb)
      simp (disch := omega) only [X_X12_keepRows_10_s, mI_m, mR_m, mJ_m, sI_m, sJ_m, hM.1, hM.2, hm.1, hm.2, lT, lF, tT, tF, eF, pF, zT, m1F, vT, cI, true_and, and_true, true_implies, false_implies, not_false_eq_true, not_true_eq_false, forall_eq, implies_true, e, I_cl, mR_sI, sv, nI_1]
      exact hK) 0 (Nat.zero_le _) (0, sI ρ 1282 33 (nI r0)) ⟨rfl, hm.wI _ _ _, Eqv.rf, fun r h => by omega⟩
  have hb : b1 = r0 := hb
  subst hb
  have hma : StM ρa := hma
  have fra : Eqv _ (sI ρ 1282 33 (nI b1)) ρa := fra
  obtain ⟨⟨b2, ρc⟩, ⟨hb, hmc, frc, fc⟩, run2⟩ := Lw.run (ι := Mem × (Mem → Prop)) (fun z => X_X12_keepRows_74_s G z.2 1282) (fun (b : Nat × Mem) z => (nI b.1, mg z.1 b.2)) (16 * b1) (fun i b => b.1 = i ∧ StM b.2 ∧ Eqv (fun a _ => a ≠ 1315) ρa b.2 ∧ ∀ k, k < i → mI b.2 1315 k = mI ρ 1309 k) (by
    rintro i ⟨b2, ρb⟩ hi ⟨hb, hm, fr, ff⟩
    have hb : b2 = i := hb
    subst hb
    have hm : StM ρb := hm
    have fr : Eqv _ ρa ρb := fr
    have e : mI ρb 1282 26 = nI b1 := by rw [fr.I (by omega), fra.I (by omega)]; rw [I_sl (by decide)]; exact e26
    have sv : mI ρb 1309 b2 = mI ρ 1309 b2 := by rw [fr.I (by omega), fra.I (by omega), I_cl (by omega)]
    refine ⟨(b2 + 1, sI ρb 1315 b2 (mI ρ 1309 b2)), ⟨rfl, hm.wI _ _ _, fr.sI (by omega) _, fun r hr2 => ?_⟩, fun z K hK => ?_⟩
    · show mI (sI ρb _ _ _) 1315 r = _
      by_cases e1 : r = b2
      · subst e1
        rw [I_is]
      · rw [I_sl e1]
        exact ff r (by omega)
    · show X_X12_keepRows_74_s G z.2 1282 K (nI b2, mg z.1 ρb)
      simp (disch := omega) only [X_X12_keepRows_74_s, n16, pk_mul, mI_m, mR_m, mJ_m, sI_m, sJ_m, hM.1, hM.2, hm.1, hm.2, lT, lF, tT, tF, eF, pF, zT, m1F, vT, cI, true_and, and_true, true_implies, false_implies, not_false_eq_true, not_true_eq_false, forall_eq, implies_true, e, sv, nI_1]
      exact hK) 0 (Nat.zero_le _) (0, ρa) ⟨rfl, hma, Eqv.rf, fun r h => by omega⟩
  have hb : b2 = 16 * b1 := hb
  subst hb
  have hmc : StM ρc := hmc
  have frc : Eqv _ ρa ρc := frc
  have e2 : mI ρa 1282 26 = nI b1 := by rw [fra.I (by omega)]; rw [I_sl (by decide)]; exact e26
  have e3 : mI ρc 1282 26 = nI b1 := by rw [frc.I (by omega)]; exact e2
  refine ⟨ρc, fun κ1 Q hQ => ?_, hmc, (Eqv.wI (by omega) _).tr ((fra.mo fun a k h => by omega).tr (frc.mo fun a k h => by omega)), ?_, fun r hr2 => ?_, fc⟩
  · have r2 := run2 (κ1, Q) (fun K => by
      show X_X12_keepRows_74_s G Q 1282 K (nI (16 * b1), mg κ1 ρc)
      simp (disch := omega) only [X_X12_keepRows_74_s, n16, pk_mul, mI_m, hM.1, lT, lF, tT, tF, eF, pF, zT, m1F, vT, cI, true_and, and_true, true_implies, false_implies, not_false_eq_true, not_true_eq_false, forall_eq, implies_true, e3]
      exact hQ)
    have r1 := run (κ1, Q) (fun K => by
      show X_X12_keepRows_10_s G Q 1282 K (nI b1, mg κ1 ρa)
      simp (disch := omega) only [X_X12_keepRows_10_s, mI_m, hM.1, lT, lF, tT, tF, eF, pF, zT, m1F, vT, cI, true_and, and_true, true_implies, false_implies, not_false_eq_true, not_true_eq_false, forall_eq, implies_true, e2, X_X12_keepRows_74]
      exact r2)
    show X_X12_keepRows G Q 1282 (mg κ1 ρ)
    simp (disch := omega) only [X_X12_keepRows, X_X12_keepRows_0, X_X12_keepRows_10, mI_m, sI_m, hM.1, true_and, forall_eq, e26]
    exact r1
  · rw [frc.I (by omega), fra.I (by omega)]; exact I_is _ _ _ _
  · rw [frc.I (by omega), frc.I (by omega), frc.I (by omega), frc.I (by omega)]
    exact fa r hr2
theorem m_backRows (hM : LyM G) (hm : StM ρ) {r0 : Nat} (hr : r0 ≤ 720) (e26 : mI ρ 1282 33 = nI r0) :
    ∃ ρ', RunM0 (fun Q σ => X_X12_backRows G Q 1282 σ) ρ ρ' ∧ StM ρ' ∧ Eqv (fun a k => ¬ (a = 1282 ∧ k = 26 ∨ 1305 ≤ a ∧ a ≤ 1309)) ρ ρ' ∧ mI ρ' 1282 26 = nI r0 ∧ (∀ r, r < r0 → mI ρ' 1305 r = mI ρ 1311 r ∧ mI ρ' 1306 r = mI ρ 1312 r ∧ mI ρ' 1307 r = mI ρ 1313 r ∧ mI ρ' 1308 r = mI ρ 1314 r) ∧ ∀ k, k < 16 * r0 → mI ρ' 1309 k = mI ρ 1315 k := by
  have n16 : (16 : Int32) = nI 16 := rfl
  -- the first loop
  obtain ⟨⟨b1, ρa⟩, ⟨hb, hma, fra, fa⟩, run⟩ := Lw.run (ι := Mem × (Mem → Prop)) (fun z => X_X12_backRows_10_s G z.2 1282) (fun (b : Nat × Mem) z => (nI b.1, mg z.1 b.2)) r0 (fun i b => b.1 = i ∧ StM b.2 ∧ Eqv (fun a _ => ¬ (1305 ≤ a ∧ a ≤ 1308)) (sI ρ 1282 26 (nI r0)) b.2 ∧ ∀ r, r < i → mI b.2 1305 r = mI ρ 1311 r ∧ mI b.2 1306 r = mI ρ 1312 r ∧ mI b.2 1307 r = mI ρ 1313 r ∧ mI b.2 1308 r = mI ρ 1314 r) (by
    rintro i ⟨b1, ρb⟩ hi ⟨hb, hm, fr, ff⟩
    have hb : b1 = i := hb
    subst hb
    have hm : StM ρb := hm
    have fr : Eqv _ (sI ρ 1282 26 (nI r0)) ρb := fr
    have e : mI ρb 1282 26 = nI r0 := by rw [fr.I (by omega)]; exact I_is _ _ _ _
    have sv : ∀ a, 1311 ≤ a → a ≤ 1314 → mI ρb a b1 = mI ρ a b1 := fun a h1 h2 => by rw [fr.I (by omega), I_cl (by omega)]
    refine ⟨(b1 + 1, sI (sI (sI (sI ρb 1305 b1 (mI ρ 1311 b1)) 1306 b1 (mI ρ 1312 b1)) 1307 b1 (mI ρ 1313 b1)) 1308 b1 (mI ρ 1314 b1)), ⟨rfl, (((hm.wI _ _ _).wI _ _ _).wI _ _ _).wI _ _ _, (((fr.sI (by omega) _).sI (by omega) _).sI (by omega) _).sI (by omega) _, fun r hr2 => ?_⟩, fun z K hK => ?_⟩
    · show mI (sI (sI (sI (sI ρb _ _ _) _ _ _) _ _ _) _ _ _) 1305 r = _ ∧ mI (sI (sI (sI (sI ρb _ _ _) _ _ _) _ _ _) _ _ _) 1306 r = _ ∧ mI (sI (sI (sI (sI ρb _ _ _) _ _ _) _ _ _) _ _ _) 1307 r = _ ∧ mI (sI (sI (sI (sI ρb _ _ _) _ _ _) _ _ _) _ _ _) 1308 r = _
      by_cases e1 : r = b1
      · subst e1
        simp (disch := omega) only [I_is, I_cl, and_self]
      · simp (disch := omega) only [I_cl, I_sl]
        exact ff r (by omega)
    · show X_X12_backRows_10_s G z.2 1282 K (nI b1, mg z.1 ρb)
      simp (disch := omega) only [X_X12_backRows_10_s, mI_m, mR_m, mJ_m, sI_m, sJ_m, hM.1, hM.2, hm.1, hm.2, lT, lF, tT, tF, eF, pF, zT, m1F, vT, cI, true_and, and_true, true_implies, false_implies, not_false_eq_true, not_true_eq_false, forall_eq, implies_true, e, I_cl, mR_sI, sv, nI_1]
      exact hK) 0 (Nat.zero_le _) (0, sI ρ 1282 26 (nI r0)) ⟨rfl, hm.wI _ _ _, Eqv.rf, fun r h => by omega⟩
  have hb : b1 = r0 := hb
  subst hb
  have hma : StM ρa := hma
  have fra : Eqv _ (sI ρ 1282 26 (nI b1)) ρa := fra
  obtain ⟨⟨b2, ρc⟩, ⟨hb, hmc, frc, fc⟩, run2⟩ := Lw.run (ι := Mem × (Mem → Prop)) (fun z => X_X12_backRows_74_s G z.2 1282) (fun (b : Nat × Mem) z => (nI b.1, mg z.1 b.2)) (16 * b1) (fun i b => b.1 = i ∧ StM b.2 ∧ Eqv (fun a _ => a ≠ 1309) ρa b.2 ∧ ∀ k, k < i → mI b.2 1309 k = mI ρ 1315 k) (by
    rintro i ⟨b2, ρb⟩ hi ⟨hb, hm, fr, ff⟩
    have hb : b2 = i := hb
    subst hb
    have hm : StM ρb := hm
    have fr : Eqv _ ρa ρb := fr
    have e : mI ρb 1282 26 = nI b1 := by rw [fr.I (by omega), fra.I (by omega)]; exact I_is _ _ _ _
    have sv : mI ρb 1315 b2 = mI ρ 1315 b2 := by rw [fr.I (by omega), fra.I (by omega), I_cl (by omega)]
    refine ⟨(b2 + 1, sI ρb 1309 b2 (mI ρ 1315 b2)), ⟨rfl, hm.wI _ _ _, fr.sI (by omega) _, fun r hr2 => ?_⟩, fun z K hK => ?_⟩
    · show mI (sI ρb _ _ _) 1309 r = _
      by_cases e1 : r = b2
      · subst e1
        rw [I_is]
      · rw [I_sl e1]
        exact ff r (by omega)
    · show X_X12_backRows_74_s G z.2 1282 K (nI b2, mg z.1 ρb)
      simp (disch := omega) only [X_X12_backRows_74_s, n16, pk_mul, mI_m, mR_m, mJ_m, sI_m, sJ_m, hM.1, hM.2, hm.1, hm.2, lT, lF, tT, tF, eF, pF, zT, m1F, vT, cI, true_and, and_true, true_implies, false_implies, not_false_eq_true, not_true_eq_false, forall_eq, implies_true, e, sv, nI_1]
      exact hK) 0 (Nat.zero_le _) (0, ρa) ⟨rfl, hma, Eqv.rf, fun r h => by omega⟩
  have hb : b2 = 16 * b1 := hb
  subst hb
  have hmc : StM ρc := hmc
  have frc : Eqv _ ρa ρc := frc
  have e2 : mI ρa 1282 26 = nI b1 := by rw [fra.I (by omega)]; exact I_is _ _ _ _
  have e3 : mI ρc 1282 26 = nI b1 := by rw [frc.I (by omega)]; exact e2
  refine ⟨ρc, fun κ1 Q hQ => ?_, hmc, (Eqv.wI (by omega) _).tr ((fra.mo fun a k h => by omega).tr (frc.mo fun a k h => by omega)), ?_, fun r hr2 => ?_, fc⟩
  · have r2 := run2 (κ1, Q) (fun K => by
      show X_X12_backRows_74_s G Q 1282 K (nI (16 * b1), mg κ1 ρc)
      simp (disch := omega) only [X_X12_backRows_74_s, n16, pk_mul, mI_m, hM.1, lT, lF, tT, tF, eF, pF, zT, m1F, vT, cI, true_and, and_true, true_implies, false_implies, not_false_eq_true, not_true_eq_false, forall_eq, implies_true, e3]
      exact hQ)
    have r1 := run (κ1, Q) (fun K => by
      show X_X12_backRows_10_s G Q 1282 K (nI b1, mg κ1 ρa)
      simp (disch := omega) only [X_X12_backRows_10_s, mI_m, hM.1, lT, lF, tT, tF, eF, pF, zT, m1F, vT, cI, true_and, and_true, true_implies, false_implies, not_false_eq_true, not_true_eq_false, forall_eq, implies_true, e2, X_X12_backRows_74]
      exact r2)
    show X_X12_backRows G Q 1282 (mg κ1 ρ)
    simp (disch := omega) only [X_X12_backRows, X_X12_backRows_0, X_X12_backRows_10, mI_m, sI_m, hM.1, true_and, forall_eq, e26]
    exact r1
  · rw [frc.I (by omega), fra.I (by omega)]; exact I_is _ _ _ _
  · rw [frc.I (by omega), frc.I (by omega), frc.I (by omega), frc.I (by omega)]
    exact fa r hr2
end KEEP
