section SETTLE2
variable {G : Lay} {nn sc n r0 r1 w : Nat} {mc rt hc K N N1 us : Nat → Nat} {κ κ' κ0 ρ ρ' ρ0 κ1 ρ1 : Mem} {u k f q : Nat} {l L : List Nat} {st : Nat → Int32} {rk : Nat → Nat} {C : Int32 → Int32 → Int32}
/-- an object's cells in the reference that settling may change -/
def stM (p a j : Nat) : Prop := (a = 1319 ∨ a = 1323) ∧ j = p ∨ a = 1325 ∧ 16 * p ≤ j ∧ j < 16 * p + 16
theorem m_settle (hG : Ly G) (hm : StM ρ) (hu : u < 4) (h60 : us u ≤ 60) (eu : mI ρ 1317 u = nI (us u)) (hR : RelR N r0 κ ρ) (hS : RelS sc n mc rt hc κ ρ) (h1 : ∀ k, k < us u → mI ρ 1319 (60 * u + k) = st k) (hch : ∀ k m, k < us u → chgM ρ (60 * u + k) m = chgM ρ0 (60 * u + k) m) (hlv : ∀ k, k < us u → st k = 1 → ∃ c, c < n ∧ mI ρ 1322 (60 * u + k) = nI c ∧ ∀ m, mc c ≤ m → m < 16 → mI ρ 1324 (16 * (60 * u + k) + m) = 0 ∧ mI ρ 1325 (16 * (60 * u + k) + m) = 0) {V : Nat → Int32} (hV : ∀ k, k < us u → wrB ρ0 u st k = true → ∃ r, r < r0 ∧ mI ρ 1305 r = mI ρ 1320 (60 * u + k) ∧ mI ρ 1306 r = mI ρ 1321 (60 * u + k) ∧ V k = mI ρ 1308 r) :
    ∃ ρ', (∀ κ1 (Q : Int32 → Mem → Prop), Q 0 (mg κ1 ρ') → X_X12_writeUnit_167 G Q 1282 (nI u) 0 (mg κ1 ρ)) ∧ StM ρ' ∧ Eqv (fun a j => ¬ ∃ k, k < us u ∧ stM (60 * u + k) a j) ρ ρ' ∧ ∀ k, k < us u → mI ρ' 1319 (60 * u + k) = sT ρ0 u st k ∧ mI ρ' 1323 (60 * u + k) = (if wrB ρ0 u st k = true then V k else mI ρ 1323 (60 * u + k)) ∧ ∀ m, m < 16 → mI ρ' 1325 (16 * (60 * u + k) + m) = if wrB ρ0 u st k = true then mI ρ 1324 (16 * (60 * u + k) + m) else mI ρ 1325 (16 * (60 * u + k) + m) := by
  have hM := hG.2.2.2
  have h12 := hS.le
  have n60 : (60 : Int32) = nI 60 := rfl
  have n16 : (16 : Int32) = nI 16 := rfl
  have t32 : ((3 : Int32) = 2) = False := eq_false (by decide)
  have t23 : ((2 : Int32) = 3) = False := eq_false (by decide)
  have t13 : ((1 : Int32) = 3) = False := eq_false (by decide)
  obtain ⟨⟨b1, ρ'⟩, ⟨hb, hm', fr', dn'⟩, run⟩ := Lw.run (ι := Mem × (Int32 → Mem → Prop)) (fun z => X_X12_writeUnit_167_s G z.2 1282 (nI u)) (fun (b : Nat × Mem) z => (nI b.1, mg z.1 b.2)) (us u) (fun i b => b.1 = i ∧ StM b.2 ∧ Eqv (fun a j => ¬ ∃ k, k < i ∧ stM (60 * u + k) a j) ρ b.2 ∧ ∀ k, k < i → mI b.2 1319 (60 * u + k) = sT ρ0 u st k ∧ mI b.2 1323 (60 * u + k) = (if wrB ρ0 u st k = true then V k else mI ρ 1323 (60 * u + k)) ∧ ∀ m, m < 16 → mI b.2 1325 (16 * (60 * u + k) + m) = if wrB ρ0 u st k = true then mI ρ 1324 (16 * (60 * u + k) + m) else mI ρ 1325 (16 * (60 * u + k) + m)) (by
    rintro i ⟨b1, ρb⟩ hi ⟨hb, hm, fr, dn⟩
    have hb : b1 = i := hb
    subst hb
    have hm : StM ρb := hm
    have fr : Eqv _ ρ ρb := fr
    have dn : ∀ k, k < b1 → mI ρb 1319 (60 * u + k) = _ ∧ mI ρb 1323 (60 * u + k) = _ ∧ ∀ m, m < 16 → mI ρb 1325 (16 * (60 * u + k) + m) = _ := dn
    have oth : ∀ a j, a ≠ 1319 → a ≠ 1323 → a ≠ 1325 → mI ρb a j = mI ρ a j := fun a j x1 x2 x3 => fr.I (by rintro ⟨k, k1, h⟩; unfold stM at h; omega)
    have own : ∀ a, a = 1319 ∨ a = 1323 → mI ρb a (60 * u + b1) = mI ρ a (60 * u + b1) := fun a ha => fr.I (by rintro ⟨k, k1, h⟩; unfold stM at h; omega)
    have ownc : ∀ m, m < 16 → mI ρb 1325 (16 * (60 * u + b1) + m) = mI ρ 1325 (16 * (60 * u + b1) + m) := fun m hm => fr.I (by rintro ⟨k, k1, h⟩; unfold stM at h; omega)
    have eu' : mI ρb 1317 u = nI (us u) := (oth _ _ (by decide) (by decide) (by decide)).trans eu
    have es : mI ρb 1319 (60 * u + b1) = st b1 := (own _ (Or.inl rfl)).trans (h1 b1 hi)
    have hst1 : ∀ ρn : Mem, StM ρn → Eqv (fun a j => ¬ stM (60 * u + b1) a j) ρb ρn → (mI ρn 1319 (60 * u + b1) = sT ρ0 u st b1 ∧ mI ρn 1323 (60 * u + b1) = (if wrB ρ0 u st b1 = true then V b1 else mI ρ 1323 (60 * u + b1)) ∧ ∀ m, m < 16 → mI ρn 1325 (16 * (60 * u + b1) + m) = if wrB ρ0 u st b1 = true then mI ρ 1324 (16 * (60 * u + b1) + m) else mI ρ 1325 (16 * (60 * u + b1) + m)) → StM ρn ∧ Eqv (fun a j => ¬ ∃ k, k < b1 + 1 ∧ stM (60 * u + k) a j) ρ ρn ∧ ∀ k, k < b1 + 1 → mI ρn 1319 (60 * u + k) = sT ρ0 u st k ∧ mI ρn 1323 (60 * u + k) = (if wrB ρ0 u st k = true then V k else mI ρ 1323 (60 * u + k)) ∧ ∀ m, m < 16 → mI ρn 1325 (16 * (60 * u + k) + m) = if wrB ρ0 u st k = true then mI ρ 1324 (16 * (60 * u + k) + m) else mI ρ 1325 (16 * (60 * u + k) + m) := by
      intro ρn a1 a2 a3
      refine ⟨a1, (fr.mo fun a j h => ?_).tr (a2.mo fun a j h => ?_), fun k hk => ?_⟩
      · rintro ⟨k, k1, k2⟩; exact h ⟨k, by omega, k2⟩
      · exact fun h2 => h ⟨b1, by omega, h2⟩
      · by_cases e : k = b1
        · subst e; exact a3
        · obtain ⟨d1, d2, d3⟩ := dn k (by omega)
          have e1 : ∀ a, a = 1319 ∨ a = 1323 → mI ρn a (60 * u + k) = mI ρb a (60 * u + k) := fun a ha => a2.I (fun h => by unfold stM at h; omega)
          refine ⟨by rw [e1 _ (Or.inl rfl)]; exact d1, by rw [e1 _ (Or.inr rfl)]; exact d2, fun m hm => ?_⟩
          rw [a2.I (a := 1325) (fun h => by unfold stM at h; omega)]; exact d3 m hm
    by_cases hw : wrB ρ0 u st b1 = true
    · -- it was written
      have hw' := dP_o hw
      have s3 : st b1 ≠ 3 := fun h => by
        rcases hw' with h2 | ⟨h2, -⟩
        · rw [h] at h2; exact absurd h2 (by decide)
        · rw [h] at h2; exact absurd h2 (by decide)
      obtain ⟨r, r1, r2, r3, r4⟩ := hV b1 hi hw
      have hr7 := hR.le
      obtain ⟨ρn, en⟩ : ∃ y, y = sF (sI (sI ρb 1319 (60 * u + b1) 1) 1323 (60 * u + b1) (V b1)) 1325 (16 * (60 * u + b1)) (16 * (60 * u + b1) + 16) (fun j => mI ρ 1324 j) := ⟨_, rfl⟩
      have hmn : StM ρn := by rw [en]; exact ((hm.wI _ _ _).wI _ _ _).wF _ _ _ _
      refine ⟨(b1 + 1, ρn), ⟨rfl, hst1 ρn hmn ?_ ⟨?_, ?_, fun m hm => ?_⟩⟩, fun z K2 hK => ?_⟩
      · rw [en]
        refine ((Eqv.wI ?_ _).sI ?_ _).sF ?_
        · exact fun h => h (Or.inl ⟨Or.inl rfl, rfl⟩)
        · exact fun h => h (Or.inl ⟨Or.inr rfl, rfl⟩)
        · exact fun j h1 h2 h => h (Or.inr ⟨rfl, h1, h2⟩)
      · rw [en, sF_cl (by decide), I_cl (by decide), I_is]; unfold sT; rw [if_neg s3, if_pos hw]
      · rw [en, sF_cl (by decide), I_is, if_pos hw]
      · rw [en, sF_in (by omega) (by omega), if_pos hw]
      · have r232 : X_X12_writeUnit_232 G z.2 K2 1282 (nI u) (nI b1) (nI (60 * u + b1)) (mg z.1 ρb) := by
          have hmc : StM (sI ρb 1319 (60 * u + b1) 1) := hm.wI _ _ _
          have hRc : RelR N r0 κ (sI ρb 1319 (60 * u + b1) 1) := hR.fr Eqv.rf ((fr.mo fun a j h => by rintro ⟨k, k1, h2⟩; unfold stM at h2; simp only [rM] at h; omega).sI (by simp only [rM]; omega) _)
          have q5 : mI (sI ρb 1319 (60 * u + b1) 1) 1305 r = mI (sI ρb 1319 (60 * u + b1) 1) 1320 (60 * u + b1) := by
            rw [I_cl (by decide), I_cl (by decide), oth _ _ (by decide) (by decide) (by decide), oth _ _ (by decide) (by decide) (by decide)]; exact r2
          have q6 : mI (sI ρb 1319 (60 * u + b1) 1) 1306 r = mI (sI ρb 1319 (60 * u + b1) 1) 1321 (60 * u + b1) := by
            rw [I_cl (by decide), I_cl (by decide), oth _ _ (by decide) (by decide) (by decide), oth _ _ (by decide) (by decide) (by decide)]; exact r3
          have q8 : mI (sI ρb 1319 (60 * u + b1) 1) 1308 r = V b1 := by
            rw [I_cl (by decide), oth _ _ (by decide) (by decide) (by decide)]; exact r4.symm
          simp (disch := omega) only [X_X12_writeUnit_232, mI_m, mR_m, sI_m, hM.1, hM.2, hm.1, hm.2, lT, lF, tT, tF, eF, pF, zT, m1F, vT, cI, true_and, and_true, true_implies, false_implies, not_false_eq_true, not_true_eq_false, forall_eq, implies_true, mR_sI]
          refine m_rowOf1 hM hmc hRc r1 q5 q6 ?_
          simp (disch := omega) only [mI_m, mR_m, sI_m, hM.1, hM.2, hmc.1, hmc.2, lT, lF, tT, tF, eF, pF, zT, m1F, vT, cI, true_and, and_true, true_implies, false_implies, not_false_eq_true, not_true_eq_false, forall_eq, implies_true, q8]
          unfold X_X12_writeUnit_269
          refine Lw.nat 16 (fun m x => x = (nI m, mg z.1 (sF (sI (sI ρb 1319 (60 * u + b1) 1) 1323 (60 * u + b1) (V b1)) 1325 (16 * (60 * u + b1)) (16 * (60 * u + b1) + m) (fun j => mI ρ 1324 j)))) ?_ 0 (by omega) _ (by rw [Nat.add_zero, sF_0]; rfl)
          rintro K' m x hm2 rfl hk'
          have hmi : StM (sF (sI (sI ρb 1319 (60 * u + b1) 1) 1323 (60 * u + b1) (V b1)) 1325 (16 * (60 * u + b1)) (16 * (60 * u + b1) + m) (fun j => mI ρ 1324 j)) := (hmc.wI _ _ _).wF _ _ _ _
          have ev : ∀ j, mI ρb 1324 j = mI ρ 1324 j := fun j => oth _ _ (by decide) (by decide) (by decide)
          by_cases hlt : m < 16
          · simp (disch := omega) only [X_X12_writeUnit_269_s, n16, pk_mul, nI_add, mI_m, mR_m, sI_m, hM.1, hM.2, hmi.1, hmi.2, lT, lF, tT, tF, eF, pF, zT, m1F, vT, cI, true_and, and_true, true_implies, false_implies, not_false_eq_true, not_true_eq_false, forall_eq, implies_true, sF_cl, I_cl, ev, nI_1]
            refine hk' _ hlt ?_
            rw [sF_st (by omega) rfl]; rfl
          · obtain rfl : m = 16 := by omega
            refine brT (by decide) ?_
            unfold X_X12_writeUnit_306
            rw [nI_1, ← en]; exact hK
        show X_X12_writeUnit_167_s G z.2 1282 (nI u) K2 (nI b1, mg z.1 ρb)
        rcases hw' with s2 | ⟨s1, hbits⟩
        · rw [s2] at es
          simp (disch := omega) only [X_X12_writeUnit_167_s, n60, pk_mul, nI_add, mI_m, mR_m, hM.1, hM.2, hm.1, hm.2, lT, lF, tT, tF, eF, pF, zT, m1F, vT, cI, true_and, and_true, true_implies, false_implies, not_false_eq_true, not_true_eq_false, forall_eq, implies_true, eu', es, t23]
          exact r232
        · rw [s1] at es
          obtain ⟨c, c1, c2, c3⟩ := hlv b1 hi s1
          obtain ⟨-, -, -, -, ew, h16, -⟩ := hS.cls c1
          have chb : ∀ m, m < 16 → chgM ρb (60 * u + b1) m = chgM ρ0 (60 * u + b1) m := fun m hm => by
            rw [← hch b1 m hi]; unfold chgM
            rw [oth _ _ (by decide) (by decide) (by decide), ownc m hm]
          have ecnt : cntB (chgM ρb (60 * u + b1)) 16 = cntB (chgM ρb (60 * u + b1)) (mc c) := cntB_ext 16 h16 (fun m m1 m2 => decide_eq_false (fun h => h (by
            rw [oth _ _ (by decide) (by decide) (by decide), ownc m m2, (c3 m m1 m2).1, (c3 m m1 m2).2])))
          have hne : cntB (chgM ρb (60 * u + b1)) (mc c) ≠ 0 := fun h => hbits (by
            rw [← ecnt, cntB_0] at h
            exact (bitsN_0 16).mpr (fun m hm => by rw [← chb m hm]; exact h m hm))
          have cle := cntB_le (p := chgM ρb (60 * u + b1)) (mc c)
          simp (disch := omega) only [X_X12_writeUnit_167_s, n60, pk_mul, nI_add, mI_m, mR_m, hM.1, hM.2, hm.1, hm.2, lT, lF, tT, tF, eF, pF, zT, m1F, vT, cI, true_and, and_true, true_implies, false_implies, not_false_eq_true, not_true_eq_false, forall_eq, implies_true, eu', es, t13, o2F]
          refine m_changed hM hm (by omega) (by omega) ((oth _ _ (by decide) (by decide) (by decide)).trans c2) ((oth _ _ (by decide) (by decide) (by decide)).trans ew) h16 ?_
          exact brF (fun h => hne (by have := (lI (b := 0) (by omega) (by decide)).mp h; omega)) r232
    · by_cases s3 : st b1 = 3
      · refine ⟨(b1 + 1, sI ρb 1319 (60 * u + b1) 4), ⟨rfl, hst1 _ (hm.wI _ _ _) (Eqv.wI (fun h => h (Or.inl ⟨Or.inl rfl, rfl⟩)) _) ⟨?_, ?_, fun m hm => ?_⟩⟩, fun z K2 hK => ?_⟩
        · rw [I_is]; unfold sT; rw [if_pos s3]
        · rw [I_cl (by decide), own _ (Or.inr rfl), if_neg hw]
        · rw [I_cl (by decide), ownc m hm, if_neg hw]
        · show X_X12_writeUnit_167_s G z.2 1282 (nI u) K2 (nI b1, mg z.1 ρb)
          rw [s3] at es
          simp (disch := omega) only [X_X12_writeUnit_167_s, X_X12_writeUnit_306, n60, pk_mul, nI_add, mI_m, mR_m, sI_m, hM.1, hM.2, hm.1, hm.2, lT, lF, tT, tF, eF, pF, zT, m1F, vT, cI, true_and, and_true, true_implies, false_implies, not_false_eq_true, not_true_eq_false, forall_eq, implies_true, eu', es, nI_1]
          exact hK
      · refine ⟨(b1 + 1, ρb), ⟨rfl, hst1 ρb hm Eqv.rf ⟨?_, ?_, fun m hm => ?_⟩⟩, fun z K2 hK => ?_⟩
        · rw [es]; unfold sT; rw [if_neg s3, if_neg hw]
        · rw [own _ (Or.inr rfl), if_neg hw]
        · rw [ownc m hm, if_neg hw]
        · show X_X12_writeUnit_167_s G z.2 1282 (nI u) K2 (nI b1, mg z.1 ρb)
          have s2 : st b1 ≠ 2 := fun h => hw (dP_t (Or.inl h))
          by_cases s1 : st b1 = 1
          · rw [s1] at es
            obtain ⟨c, c1, c2, c3⟩ := hlv b1 hi s1
            obtain ⟨-, -, -, -, ew, h16, -⟩ := hS.cls c1
            have hbits : bitsN (chgM ρ0 (60 * u + b1)) 16 = 0 := Classical.byContradiction (fun h => hw (dP_t (Or.inr ⟨s1, h⟩)))
            have chb : ∀ m, m < 16 → chgM ρb (60 * u + b1) m = chgM ρ0 (60 * u + b1) m := fun m hm => by
              rw [← hch b1 m hi]; unfold chgM
              rw [oth _ _ (by decide) (by decide) (by decide), ownc m hm]
            have hz : cntB (chgM ρb (60 * u + b1)) (mc c) = 0 := (cntB_0 _).mpr (fun m hm => by
              rw [chb m (by omega)]; exact (bitsN_0 16).mp hbits m (by omega))
            simp (disch := omega) only [X_X12_writeUnit_167_s, n60, pk_mul, nI_add, mI_m, mR_m, hM.1, hM.2, hm.1, hm.2, lT, lF, tT, tF, eF, pF, zT, m1F, vT, cI, true_and, and_true, true_implies, false_implies, not_false_eq_true, not_true_eq_false, forall_eq, implies_true, eu', es, t13, o2F]
            refine m_changed hM hm (by omega) (by omega) ((oth _ _ (by decide) (by decide) (by decide)).trans c2) ((oth _ _ (by decide) (by decide) (by decide)).trans ew) h16 ?_
            rw [hz]
            refine brT (by decide) ?_
            unfold X_X12_writeUnit_306
            rw [nI_1]; exact hK
          · simp (disch := omega) only [X_X12_writeUnit_167_s, X_X12_writeUnit_306, n60, pk_mul, nI_add, mI_m, mR_m, hM.1, hM.2, hm.1, hm.2, lT, lF, tT, tF, eF, pF, zT, m1F, vT, cI, true_and, and_true, true_implies, false_implies, not_false_eq_true, not_true_eq_false, forall_eq, implies_true, eu', es, s1, s2, s3, nI_1]
            exact hK) 0 (Nat.zero_le _) (0, ρ) ⟨rfl, hm, Eqv.rf, fun k h => by omega⟩
  have hb : b1 = us u := hb
  subst hb
  have hm' : StM ρ' := hm'
  have fr' : Eqv _ ρ ρ' := fr'
  refine ⟨ρ', fun κ1 Q hQ => ?_, hm', fr', dn'⟩
  have eu' : mI ρ' 1317 u = nI (us u) := (fr'.I (by rintro ⟨k, k1, h⟩; unfold stM at h; omega)).trans eu
  exact run (κ1, Q) (fun K2 => by
    show X_X12_writeUnit_167_s G Q 1282 (nI u) K2 (nI (us u), mg κ1 ρ')
    simp (disch := omega) only [X_X12_writeUnit_167_s, mI_m, mR_m, hM.1, hM.2, hm'.1, hm'.2, lT, lF, tT, tF, eF, pF, zT, m1F, vT, cI, true_and, and_true, true_implies, false_implies, not_false_eq_true, not_true_eq_false, forall_eq, implies_true, eu']
    exact hQ)
end SETTLE2
