section SETTLE
variable {G : Lay} {nn sc n r0 r1 w : Nat} {mc rt hc K N N1 us : Nat → Nat} {κ κ' κ0 ρ ρ' ρ0 κ1 ρ1 : Mem} {u k f q : Nat} {l L : List Nat} {st : Nat → Int32} {rk : Nat → Nat} {C : Int32 → Int32 → Int32}
theorem j_changeAll (hG : Ly G) (hX : Ctx nn sc n mc rt hc K N1 r1 us κ0 ρ0 u st l C) (hrk : RkOK ρ0 u (us u) st rk) (el : l = ordN rk (sAll st) (us u)) (hM : Mid n mc rt K C u κ0 ρ0 N r0 κ ρ) (hl : Log w κ ρ) (hw : w ≤ 60) (hI : InsS us u st ρ0 r1 r0 κ ρ) (hc : cntB (cuB st ρ u) (us u) = 0) :
    (∃ κ' ρ', RunC (fun Q σ => X_X10_changeAll G Q 1269 σ) κ 0 κ' ∧ RunM (fun Q σ => X_X12_changeAll G Q 1282 (nI u) σ) ρ 0 ρ' ∧ Brk u κ0 ρ0 κ' ρ') ∨
    (∃ κ' ρ' w', RunC (fun Q σ => X_X10_changeAll G Q 1269 σ) κ 1 κ' ∧ RunM (fun Q σ => X_X12_changeAll G Q 1282 (nI u) σ) ρ 1 ρ' ∧ Mid n mc rt K C u κ0 ρ0 N r0 κ' ρ' ∧ Log w' κ' ρ' ∧ w' ≤ w + (l.filter (nlB st)).length ∧ ChS us u st l ρ0 r1 r0 l.length κ' ρ') := by
  have hL := hG.1
  have hMM := hG.2.2.2
  obtain ⟨hA0, hu, ho0, hst, hlm, hll, oc0, hcl, hcnt⟩ := id hX
  have hU := hM.U hA0 hu
  have hS := hM.S hA0 hu
  obtain ⟨⟨hC, hm⟩, fC, fM, hR, hY, hrc⟩ := id hM
  have z0 : ∀ a j, 1316 ≤ a → a ≤ 1325 → mI ρ a j = mI ρ0 a j := fun a j h1 h2 => fM.I (wfM_u h1 h2)
  obtain ⟨h60, o2, o3, o4, o5⟩ := hU.op hu ((z0 _ _ (by decide) (by decide)).trans ho0)
  obtain ⟨ρa, ra, hma, fra, oma⟩ := m_order (p := nlB st) (l2 := 1) (l3 := 1) (l4 := 0) hMM hm hu h60 o3 (hrk.fr (ρ' := ρ) h60 hu (fun a j h1 h2 => z0 a j (by omega) (by omega))) el (fun k hk => by
    unfold selO sAll nlB
    rw [z0 _ _ (by decide) (by decide), hst k hk]
    by_cases h1 : st k = 1
    · simp [h1]
    · by_cases h2 : st k = 2 <;> simp [h1, h2])
  have hMa : Mid n mc rt K C u κ0 ρ0 N r0 κ ρa := ⟨⟨hC, hma⟩, fC, fM.tr (fra.mo fun a j z h => z (by omega)), hR.fr Eqv.rf (fra.mo fun a j z => by simp only [rM] at z; omega), hY.fr hS (fra.mo fun a j z => by simp only [rM] at z; omega) (fra.mo fun a j z => by simp only [sM] at z; omega), fun r hr => by
    rw [fra.I (by omega), fra.I (by omega), fra.I (by omega)]; exact hrc r hr⟩
  have hla : Log w κ ρa := hl.fr Eqv.rf (fra.mo fun a j z => by simp only [wM] at z; omega)
  have hCh : ChS us u st l ρ0 r1 r0 0 κ ρa := by
    obtain ⟨i1, i2, i3⟩ := hI
    have zr : ∀ a j, 1305 ≤ a → a ≤ 1309 → mI ρa a j = mI ρ a j := fun a j h1 h2 => fra.I (by omega)
    refine ⟨fun k hk s2 => ?_, fun k hk s3 => i2 k hk (by rw [s3]; decide), fun k hk s1 _ => (i2 k hk (by rw [s1]; decide)).1, fun k hk _ _ hj => ?_, fun r hr => ?_⟩
    · obtain ⟨a1, a2, a3⟩ := i1 k hk s2
      have hz := (cntB_0 _).mp hc k hk
      unfold cuB at hz
      rw [decide_eq_true s2, Bool.true_and] at hz
      have hz := of_decide_eq_false hz
      rcases a3 with ⟨b1, -⟩ | ⟨b1, r, b2, b3, b4⟩
      · exact absurd b1 hz
      · refine ⟨a1.trans b1, ?_, r, b2, (zr _ _ (by decide) (by decide)).trans b3, (zr _ _ (by decide) (by decide)).trans b4⟩
        rw [a2]
        refine congrArg nI (bitsN_cg 16 (fun m hm => ?_))
        unfold ofB
        rw [fra.I (a := 1336) (by omega)]
    · obtain ⟨j, j1, -⟩ := hj; omega
    · rw [zr _ _ (by decide) (by decide), zr _ _ (by decide) (by decide)]; exact i3 r hr
  have runC : ∀ ρ1 (Q : Int32 → Mem → Prop), Lw (X_X10_changeAll_2_s G Q 1269) (nI 0, mg κ ρ1) → X_X10_changeAll G Q 1269 (mg κ ρ1) := fun ρ1 Q h => h
  have runM : ∀ κ1 (Q : Int32 → Mem → Prop), Lw (X_X12_changeAll_10_s G Q 1282) (nI (fpos (nlB st) l 0), mg κ1 ρa) → X_X12_changeAll G Q 1282 (nI u) (mg κ1 ρ) := fun κ1 Q h => by
    simp (disch := omega) only [X_X12_changeAll, X_X12_changeAll_0, hMM.1, true_and]
    refine ra κ1 _ ?_
    rw [fpos_0] at h
    exact h
  rcases j_chgLoop hG hX hw l.length 0 (by omega) κ ρa w hMa hla (by omega) hCh oma with ⟨κ', ρ', a1, a2, a3⟩ | ⟨κ', ρ', w', a1, a2, a3⟩
  · exact Or.inl ⟨κ', ρ', fun ρ1 Q hQ => runC ρ1 Q (a1 ρ1 Q hQ), fun κ1 Q hQ => runM κ1 Q (a2 κ1 Q hQ), a3⟩
  · exact Or.inr ⟨κ', ρ', w', fun ρ1 Q hQ => runC ρ1 Q (a1 ρ1 Q hQ), fun κ1 Q hQ => runM κ1 Q (a2 κ1 Q hQ), a3⟩
theorem m_zeroDel (hM : LyM G) (hm : StM ρ) {Q : Int32 → Mem → Prop} (q : X_X12_deleteAll_35 G Q 1282 (mI ρ 1282 75) (mg κ1 (sF ρ 1338 0 240 (fun _ => 0)))) : X_X12_deleteAll_10 G Q 1282 0 (mg κ1 ρ) := by
  have n240 : (240 : Int32) = nI 240 := rfl
  unfold X_X12_deleteAll_10
  refine Lw.nat 240 (fun i x => x = (nI i, mg κ1 (sF ρ 1338 0 i (fun _ => 0)))) ?_ 0 (by omega) _ (by rw [sF_0]; rfl)
  rintro K' i x hi rfl hk'
  have hmi : StM (sF ρ 1338 0 i (fun _ => 0)) := hm.wF _ _ _ _
  by_cases hlt : i < 240
  · simp (disch := omega) only [X_X12_deleteAll_10_s, n240, mI_m, mR_m, sI_m, hM.1, hM.2, hmi.1, hmi.2, lT, lF, tT, tF, eF, pF, zT, m1F, vT, cI, true_and, and_true, true_implies, false_implies, not_false_eq_true, not_true_eq_false, forall_eq, implies_true, narb0, nI_1]
    refine hk' _ hlt ?_
    rw [sF_st (by omega) rfl]
  · obtain rfl : i = 240 := by omega
    simp (disch := omega) only [X_X12_deleteAll_10_s, n240, mI_m, hM.1, lT, lF, tT, tF, eF, pF, zT, m1F, vT, cI, true_and, and_true, true_implies, false_implies, not_false_eq_true, not_true_eq_false, forall_eq, implies_true, sF_cl]
    exact q
theorem cntB_two {p q : Nat → Bool} (h : ∀ k, ¬ (p k = true ∧ q k = true)) : ∀ n, cntB p n + cntB q n ≤ n := by
  intro n
  induction n with
  | zero => exact Nat.le_refl _
  | succ n ih =>
    show cntB p n + (if p n = true then 1 else 0) + (cntB q n + if q n = true then 1 else 0) ≤ n + 1
    by_cases a : p n = true
    · rw [if_pos a, if_neg (fun b => h n ⟨a, b⟩)]; omega
    · rw [if_neg a]
      by_cases b : q n = true
      · rw [if_pos b]; omega
      · rw [if_neg b]; omega
theorem j_deleteAll (hG : Ly G) (hnn : nn ≤ 512) (hX : Ctx nn sc n mc rt hc K N1 r1 us κ0 ρ0 u st l C) (hrk : RkOK ρ0 u (us u) st rk) (el : l = ordN rk (sAll st) (us u)) (hM : Mid n mc rt K C u κ0 ρ0 N r0 κ ρ) (hl : Log w κ ρ) (hw : w ≤ (l.filter (nwB st)).length + (l.filter (nlB st)).length) (hI : ChS us u st l ρ0 r1 r0 l.length κ ρ) :
    (∃ κ' ρ', RunC (fun Q σ => X_X10_deleteAll G Q 1269 σ) κ 0 κ' ∧ RunM (fun Q σ => X_X12_deleteAll G Q 1282 (nI u) σ) ρ 0 ρ' ∧ Brk u κ0 ρ0 κ' ρ') ∨
    (∃ κ' ρ' N' r0' w', RunC (fun Q σ => X_X10_deleteAll G Q 1269 σ) κ 1 κ' ∧ RunM (fun Q σ => X_X12_deleteAll G Q 1282 (nI u) σ) ρ 1 ρ' ∧ Mid n mc rt K C u κ0 ρ0 N' r0' κ' ρ' ∧ Log w' κ' ρ' ∧ w' ≤ 120 ∧ FinS us u st ρ0 r1 r0' κ' ρ') := by
  have hL := hG.1
  have hMM := hG.2.2.2
  obtain ⟨hA0, hu, ho0, hst, hlm, hll, oc0, hcl, hcnt⟩ := id hX
  have hU := hM.U hA0 hu
  have hS := hM.S hA0 hu
  obtain ⟨⟨hC, hm⟩, fC, fM, hR, hY, hrc⟩ := id hM
  have z0 : ∀ a j, 1316 ≤ a → a ≤ 1325 → mI ρ a j = mI ρ0 a j := fun a j h1 h2 => fM.I (wfM_u h1 h2)
  obtain ⟨h60, o2, o3, o4, o5⟩ := hU.op hu ((z0 _ _ (by decide) (by decide)).trans ho0)
  have oc := oc0.mid fC hu
  obtain ⟨ρa, ra, hma, fra, oma⟩ := m_order (p := drB st) (l2 := 0) (l3 := 0) (l4 := 1) hMM hm hu h60 o3 (hrk.fr (ρ' := ρ) h60 hu (fun a j h1 h2 => z0 a j (by omega) (by omega))) el (fun k hk => by
    unfold selO sAll drB
    rw [z0 _ _ (by decide) (by decide), hst k hk]
    by_cases h : st k = 3 <;> simp [h])
  obtain ⟨ρb, eb⟩ : ∃ x, x = sF ρa 1338 0 240 (fun _ => 0) := ⟨_, rfl⟩
  have hmb : StM ρb := by rw [eb]; exact hma.wF _ _ _ _
  have frb : Eqv (fun a j => ¬ (a = 1282 ∧ j = 75 ∨ a = 1334 ∨ a = 1338)) ρ ρb := by
    rw [eb]
    exact (fra.mo fun a j h => by omega).sF (fun j _ _ h => by omega)
  have zb : ∀ j, j < 240 → mI ρb 1338 j = 0 := fun j hj => by rw [eb, sF_in (by omega) (by omega)]
  have omb : OrdM ρb u (l.filter (drB st)) := by
    rw [eb]
    exact ⟨by rw [sF_cl (by decide)]; exact oma.1, fun i hi => by rw [sF_cl (by decide)]; exact oma.2 i hi⟩
  have hMb : Mid n mc rt K C u κ0 ρ0 N r0 κ ρb := ⟨⟨hC, hmb⟩, fC, fM.tr (frb.mo fun a j z h => z (by omega)), hR.fr Eqv.rf (frb.mo fun a j z => by simp only [rM] at z; omega), hY.fr hS (frb.mo fun a j z => by simp only [rM] at z; omega) (frb.mo fun a j z => by simp only [sM] at z; omega), fun r hr => by
    rw [frb.I (by omega), frb.I (by omega), frb.I (by omega)]; exact hrc r hr⟩
  have hlb : Log w κ ρb := hl.fr Eqv.rf (frb.mo fun a j z => by simp only [wM] at z; omega)
  have zr : ∀ a j, 1305 ≤ a → a ≤ 1309 → mI ρb a j = mI ρ a j := fun a j h1 h2 => frb.I (by omega)
  have hF : FinS us u st ρ0 r1 r0 κ ρb := by
    obtain ⟨i1, i2, i3, i4, i5⟩ := hI
    have hr : ∀ F X, hasR r0 ρ F X → hasR r0 ρb F X := by
      rintro F X ⟨r, a1, a2, a3⟩
      exact ⟨r, a1, (zr _ _ (by decide) (by decide)).trans a2, (zr _ _ (by decide) (by decide)).trans a3⟩
    refine ⟨fun k hk s2 => ⟨(i1 k hk s2).1, hr _ _ (i1 k hk s2).2.2⟩, fun k hk s1 => ⟨i3 k hk s1, fun hb => ?_⟩, fun r hr => ?_⟩
    · obtain ⟨i', e1, e2⟩ : ∃ i', i' < l.length ∧ l.getD i' 0 = k := by
        obtain ⟨i', h1, h2⟩ := List.getElem_of_mem ((hlm k).mpr ⟨hk, decide_eq_true (Or.inl s1)⟩)
        exact ⟨i', h1, by rw [List.getD_eq_getElem?_getD, List.getElem?_eq_getElem h1]; exact h2⟩
      obtain ⟨a1, a2⟩ := i4 k hk s1 hb ⟨i', e1, e2⟩
      exact ⟨a1, hr _ _ a2⟩
    · rw [zr _ _ (by decide) (by decide), zr _ _ (by decide) (by decide)]; exact i5 r hr
  have hD : ∀ k, k < us u → st k = 3 → mI κ (537 + 184 * u + 3 * k) 9 = mI ρb 1338 (60 * u + k) := fun k hk s3 => by
    rw [(hI.2.1 k hk s3).1, zb _ (by omega)]
  have et : cntB (cdB st ρb u) (us u) = (l.filter (drB st)).length := by
    rw [hcnt]
    refine cntB_cg (us u) (fun k hk => ?_)
    unfold cdB drB sAll
    rw [zb _ (by omega)]
    by_cases h : st k = 3 <;> simp [h]
  have hsum : (l.filter (nlB st)).length + (l.filter (drB st)).length ≤ us u := by
    rw [hcnt, hcnt]
    refine cntB_two (fun k h => ?_) (us u)
    obtain ⟨h1, h2⟩ := h
    rw [Bool.and_eq_true] at h1 h2
    have a := of_decide_eq_true h1.2
    have b := of_decide_eq_true h2.2
    rw [b] at a
    rcases a with a | a <;> exact absurd a (by decide)
  have hnw : (l.filter (nwB st)).length ≤ 60 := Nat.le_trans (List.length_filter_le _ _) hll
  have runC : ∀ ρ1 (Q : Int32 → Mem → Prop), Lw (X_X10_deleteAll_8_s G Q 1269 (nI (l.filter (drB st)).length)) (nI 0, mg κ ρ1) → X_X10_deleteAll G Q 1269 (mg κ ρ1) := fun ρ1 Q h => by
    simp (disch := omega) only [X_X10_deleteAll, X_X10_deleteAll_0, hL.1, true_and]
    refine c_countIn hG hC hu oc hll (fun k hk => by have := ((hlm k).mp hk).1; omega) (p := drB st) (fun k hk => ?_) h
    have hk2 := ((hlm k).mp hk).1
    rw [(o5 k hk2).1, z0 _ _ (by decide) (by decide), hst k hk2]
    exact decide_eq_true_iff
  have runM : ∀ κ1 (Q : Int32 → Mem → Prop), Lw (X_X12_deleteAll_35_s G Q 1282) (nI (l.filter (drB st)).length, mg κ1 ρb) → X_X12_deleteAll G Q 1282 (nI u) (mg κ1 ρ) := fun κ1 Q h => by
    simp (disch := omega) only [X_X12_deleteAll, X_X12_deleteAll_0, hMM.1, true_and]
    refine ra κ1 _ (m_zeroDel hMM hma ?_)
    rw [oma.1, ← eb]
    exact h
  rcases j_delLoop hG hnn hX (total := (l.filter (drB st)).length) (w1 := (l.filter (nwB st)).length + (l.filter (nlB st)).length) (by omega) _ 0 (Nat.zero_add _) κ ρb N r0 w hMb hlb (by omega) hF hD omb et with ⟨κ', ρ', a1, a2, a3⟩ | ⟨κ', ρ', N', r0', w', a1, a2, a3⟩
  · exact Or.inl ⟨κ', ρ', fun ρ1 Q hQ => runC ρ1 Q (a1 ρ1 Q hQ), fun κ1 Q hQ => runM κ1 Q (a2 κ1 Q hQ), a3⟩
  · exact Or.inr ⟨κ', ρ', N', r0', w', fun ρ1 Q hQ => runC ρ1 Q (a1 ρ1 Q hQ), fun κ1 Q hQ => runM κ1 Q (a2 κ1 Q hQ), a3⟩
/-! settling -/
noncomputable def wrB (ρ0 : Mem) (u : Nat) (st : Nat → Int32) (k : Nat) : Bool := dP (st k = 2 ∨ st k = 1 ∧ bitsN (chgM ρ0 (60 * u + k)) 16 ≠ 0)
noncomputable def sT (ρ0 : Mem) (u : Nat) (st : Nat → Int32) (k : Nat) : Int32 := if st k = 3 then 4 else if wrB ρ0 u st k = true then 1 else st k
theorem c_settle (hG : Ly G) (hC : StC κ) (hu : u < 4) (h60 : us u ≤ 60) (hR : RelR N r0 κ ρ) (oc : OrdC κ u l) (hll : l.length ≤ 60) (hlu : ∀ k, k ∈ l → k < us u) (hnd : ∀ i j, i < j → j < l.length → l.getD i 0 ≠ l.getD j 0) (h1 : ∀ k, k < us u → mI κ (537 + 184 * u + 3 * k) 1 = st k) (h9 : ∀ k, k ∈ l → st k ≠ 3 → mI κ (537 + 184 * u + 3 * k) 9 = if wrB ρ0 u st k = true then 1 else 0) {V : Nat → Int32} (hV : ∀ k, k < us u → wrB ρ0 u st k = true → ∃ f i r, f < 12 ∧ i < N f ∧ r < r0 ∧ RowR κ ρ f i r ∧ mI κ (537 + 184 * u + 3 * k) 2 = nI f ∧ mI κ (537 + 184 * u + 3 * k) 3 = mI ρ 1306 r ∧ V k = mI ρ 1308 r) (h3w : ∀ k, st k = 3 → wrB ρ0 u st k = false) :
    ∃ κ', RunC0 (fun Q σ => X_X10_settle G Q 1269 σ) κ κ' ∧ StC κ' ∧ Eqv (fun a s => ¬ ∃ k, k ∈ l ∧ (a = 537 + 184 * u + 3 * k ∧ (s = 1 ∨ s = 5) ∨ a = 539 + 184 * u + 3 * k)) κ κ' ∧ ∀ k, k ∈ l → mI κ' (537 + 184 * u + 3 * k) 1 = sT ρ0 u st k ∧ mI κ' (537 + 184 * u + 3 * k) 5 = (if wrB ρ0 u st k = true then V k else mI κ (537 + 184 * u + 3 * k) 5) ∧ ∀ m, m < 16 → mI κ' (539 + 184 * u + 3 * k) m = if wrB ρ0 u st k = true then mI κ (538 + 184 * u + 3 * k) m else mI κ (539 + 184 * u + 3 * k) m := by
  have hL := hG.1
  obtain ⟨⟨b1, κ'⟩, ⟨hb, hC', fr', dn'⟩, run⟩ := Lw.run (ι := Mem × (Mem → Prop)) (fun z => X_X10_settle_2_s G z.2 1269) (fun (b : Nat × Mem) z => (nI b.1, mg b.2 z.1)) l.length (fun i b => b.1 = i ∧ StC b.2 ∧ Eqv (fun a s => ¬ ∃ j, j < i ∧ (a = 537 + 184 * u + 3 * l.getD j 0 ∧ (s = 1 ∨ s = 5) ∨ a = 539 + 184 * u + 3 * l.getD j 0)) κ b.2 ∧ ∀ j, j < i → mI b.2 (537 + 184 * u + 3 * l.getD j 0) 1 = sT ρ0 u st (l.getD j 0) ∧ mI b.2 (537 + 184 * u + 3 * l.getD j 0) 5 = (if wrB ρ0 u st (l.getD j 0) = true then V (l.getD j 0) else mI κ (537 + 184 * u + 3 * l.getD j 0) 5) ∧ ∀ m, m < 16 → mI b.2 (539 + 184 * u + 3 * l.getD j 0) m = if wrB ρ0 u st (l.getD j 0) = true then mI κ (538 + 184 * u + 3 * l.getD j 0) m else mI κ (539 + 184 * u + 3 * l.getD j 0) m) (by
    rintro i ⟨b1, κb⟩ hi ⟨hb, hC, fr, dn⟩
    have hb : b1 = i := hb
    subst hb
    have hC : StC κb := hC
    have fr : Eqv _ κ κb := fr
    have hku := hlu _ (getD_mem hi)
    have far : ∀ j, j < b1 → l.getD j 0 ≠ l.getD b1 0 := fun j hj => hnd j b1 hj hi
    have ju : ∀ j, j < b1 → l.getD j 0 < us u := fun j hj => hlu _ (getD_mem (by omega))
    have oci : mR κb 1270 b1 = 537 + 184 * u + 3 * l.getD b1 0 := (fr.R (by rintro ⟨j, j1, h⟩; have := ju j j1; omega)).trans (oc.2 b1 hi)
    have ocn : mI κb 1269 3 = nI l.length := (fr.I (by rintro ⟨j, j1, h⟩; have := ju j j1; omega)).trans oc.1
    have own : ∀ s, mI κb (537 + 184 * u + 3 * l.getD b1 0) s = mI κ (537 + 184 * u + 3 * l.getD b1 0) s := fun s => fr.I (by rintro ⟨j, j1, h⟩; have := far j j1; have := ju j j1; omega)
    have ownv : ∀ s, mI κb (538 + 184 * u + 3 * l.getD b1 0) s = mI κ (538 + 184 * u + 3 * l.getD b1 0) s := fun s => fr.I (by rintro ⟨j, j1, h⟩; have := far j j1; have := ju j j1; omega)
    have ownc : ∀ s, mI κb (539 + 184 * u + 3 * l.getD b1 0) s = mI κ (539 + 184 * u + 3 * l.getD b1 0) s := fun s => fr.I (by rintro ⟨j, j1, h⟩; have := far j j1; have := ju j j1; omega)
    have rows : ∀ a s, 270 ≤ a → a ≤ 274 → mI κb a s = mI κ a s := fun a s h1 h2 => fr.I (by rintro ⟨j, j1, h⟩; have := ju j j1; omega)
    have hs1 := h1 _ hku
    have hs9 := h9 _ (getD_mem hi)
    have hVk := hV _ hku
    have h3k := h3w (l.getD b1 0)
    have dn : ∀ j, j < b1 → mI κb (537 + 184 * u + 3 * l.getD j 0) 1 = _ ∧ mI κb (537 + 184 * u + 3 * l.getD j 0) 5 = _ ∧ ∀ m, m < 16 → mI κb (539 + 184 * u + 3 * l.getD j 0) m = _ := dn
    by_cases s3 : st (l.getD b1 0) = 3
    · refine ⟨(b1 + 1, sI κb (537 + 184 * u + 3 * l.getD b1 0) 1 4), ⟨rfl, hC.wI _ _ _, (fr.mo fun a s h => ?_).sI (fun h => h ⟨b1, by omega, Or.inl ⟨rfl, Or.inl rfl⟩⟩) _, fun j hj => ?_⟩, fun z K2 hK => ?_⟩
      · rintro ⟨j, j1, j2⟩; exact h ⟨j, by omega, j2⟩
      · show mI (sI κb _ 1 4) _ 1 = _ ∧ mI (sI κb _ 1 4) _ 5 = _ ∧ ∀ m, m < 16 → mI (sI κb _ 1 4) _ m = _
        by_cases e : j = b1
        · subst e
          refine ⟨?_, ?_, fun m hm => ?_⟩
          · rw [I_is]; unfold sT; rw [if_pos s3]
          · rw [I_sl (by decide), own, h3k s3]; rfl
          · rw [I_cl (by omega), ownc, h3k s3]; rfl
        · have := far j (by omega)
          have := ju j (by omega)
          obtain ⟨a1, a2, a3⟩ := dn j (by omega)
          refine ⟨?_, ?_, fun m hm => ?_⟩
          · rw [I_cl (by omega)]; exact a1
          · rw [I_sl (by decide)]; exact a2
          · rw [I_cl (by omega)]; exact a3 m hm
      · show X_X10_settle_2_s G z.2 1269 K2 (nI b1, mg κb z.1)
        simp (disch := omega) only [X_X10_settle_2_s, X_X10_settle_81, mI_c, mR_c, sI_c, hL.1, hL.2.2, hC.1, lT, lF, tT, tF, eF, pF, zT, m1F, vT, cI, true_and, and_true, true_implies, false_implies, not_false_eq_true, not_true_eq_false, forall_eq, implies_true, ocn, oci, own, hs1, s3, nI_1]
        exact hK
    · by_cases hw : wrB ρ0 u st (l.getD b1 0) = true
      · obtain ⟨f, i, r, f1, f2, f3, f4, f5, f6, f7⟩ := hVk hw
        have hN60 := (hR.1 f f1).2
        rw [if_pos hw] at hs9
        have hs9 := hs9 s3
        have hRb : RelR N r0 κb ρ := hR.fr (fr.mo fun a s h => by rintro ⟨j, j1, h2⟩; have := ju j j1; simp only [rC] at h; omega) Eqv.rf
        refine ⟨(b1 + 1, sC (sI (sI κb (537 + 184 * u + 3 * l.getD b1 0) 1 1) (537 + 184 * u + 3 * l.getD b1 0) 5 (V (l.getD b1 0))) (538 + 184 * u + 3 * l.getD b1 0) 0 (539 + 184 * u + 3 * l.getD b1 0) 0 16), ⟨rfl, ((hC.wI _ _ _).wI _ _ _).wC _ _ _ _ _, (((fr.mo fun a s h => ?_).sI (fun h => h ⟨b1, by omega, Or.inl ⟨rfl, Or.inl rfl⟩⟩) _).sI (fun h => h ⟨b1, by omega, Or.inl ⟨rfl, Or.inr rfl⟩⟩) _).sC (fun s _ _ h => h ⟨b1, by omega, Or.inr rfl⟩), fun j hj => ?_⟩, fun z K2 hK => ?_⟩
        · rintro ⟨j, j1, j2⟩; exact h ⟨j, by omega, j2⟩
        · show mI (sC (sI (sI κb _ 1 1) _ 5 _) _ 0 _ 0 16) _ 1 = _ ∧ mI (sC (sI (sI κb _ 1 1) _ 5 _) _ 0 _ 0 16) _ 5 = _ ∧ ∀ m, m < 16 → mI (sC (sI (sI κb _ 1 1) _ 5 _) _ 0 _ 0 16) _ m = _
          by_cases e : j = b1
          · subst e
            refine ⟨?_, ?_, fun m hm => ?_⟩
            · rw [sC_cl (by omega), I_sl (by decide), I_is]; unfold sT; rw [if_neg s3, if_pos hw]
            · rw [sC_cl (by omega), I_is, if_pos hw]
            · rw [sC_in (by omega) (by omega), I_cl (by omega), I_cl (by omega), if_pos hw, ownv]
              congr 1; omega
          · have := far j (by omega)
            have := ju j (by omega)
            obtain ⟨a1, a2, a3⟩ := dn j (by omega)
            refine ⟨?_, ?_, fun m hm => ?_⟩
            · rw [sC_cl (by omega), I_cl (by omega), I_cl (by omega)]; exact a1
            · rw [sC_cl (by omega), I_cl (by omega), I_cl (by omega)]; exact a2
            · rw [sC_cl (by omega), I_cl (by omega), I_cl (by omega)]; exact a3 m hm
        · show X_X10_settle_2_s G z.2 1269 K2 (nI b1, mg κb z.1)
          have n16 : (16 : Int32) = nI 16 := rfl
          have c16 : (16 : Int32).toNatClampNeg = 16 := by decide
          have c0 : (0 : Int32).toNatClampNeg = 0 := by decide
          have n0 : (0 : Int32) = nI 0 := rfl
          simp (disch := omega) only [X_X10_settle_2_s, mI_c, mR_c, hL.1, hL.2.2, hC.1, lT, lF, tT, tF, eF, pF, zT, m1F, vT, cI, true_and, and_true, true_implies, false_implies, not_false_eq_true, not_true_eq_false, forall_eq, implies_true, ocn, oci, own, hs1, s3, hs9, o0F, f5, f6]
          refine c_rowOf1 hL hC hRb f1 f2 ((rows _ _ (by decide) (by decide)).trans f4.2.1) (brF (mI1 (by omega)) ?_)
          have ev : mI κb 273 (60 * f + i) = V (l.getD b1 0) := by rw [rows _ _ (by decide) (by decide), f4.2.2.2.1, f7]
          simp (disch := omega) only [mI_c, mR_c, hL.1, hC.1, lT, lF, tT, tF, eF, pF, zT, m1F, vT, cI, true_and, and_true, true_implies, false_implies, not_false_eq_true, not_true_eq_false, forall_eq, implies_true, ev, X_X10_settle_78, X_X10_settle_81, X_X7_keepCopy, X_X7_keepCopy_0, sI_c, sC_c, hL.2.2, hC.2.2.1, mR_sI, c16, c0, nI_1]
          have g1 := (hL.2.2 u (l.getD b1 0) hu (by omega)).2.2.1
          have g2 := (hL.2.2 u (l.getD b1 0) hu (by omega)).2.2.2.2
          refine ⟨?_, hK⟩
          rw [n0, n16]
          exact cpT (by omega) (by omega) (by omega) (by omega)
      · rw [if_neg hw] at hs9
        have hs9 := hs9 s3
        refine ⟨(b1 + 1, κb), ⟨rfl, hC, fr.mo fun a s h => ?_, fun j hj => ?_⟩, fun z K2 hK => ?_⟩
        · rintro ⟨j, j1, j2⟩; exact h ⟨j, by omega, j2⟩
        · show mI κb _ 1 = _ ∧ mI κb _ 5 = _ ∧ ∀ m, m < 16 → mI κb _ m = _
          by_cases e : j = b1
          · subst e
            refine ⟨?_, ?_, fun m hm => ?_⟩
            · rw [own, hs1]; unfold sT; rw [if_neg s3, if_neg hw]
            · rw [own, if_neg hw]
            · rw [ownc, if_neg hw]
          · exact dn j (by omega)
        · show X_X10_settle_2_s G z.2 1269 K2 (nI b1, mg κb z.1)
          simp (disch := omega) only [X_X10_settle_2_s, X_X10_settle_81, mI_c, mR_c, hL.1, hL.2.2, hC.1, lT, lF, tT, tF, eF, pF, zT, m1F, vT, cI, true_and, and_true, true_implies, false_implies, not_false_eq_true, not_true_eq_false, forall_eq, implies_true, ocn, oci, own, hs1, s3, hs9, nI_1]
          exact hK) 0 (Nat.zero_le _) (0, κ) ⟨rfl, hC, Eqv.rf, fun j h => by omega⟩
  have hb : b1 = l.length := hb
  subst hb
  have hC' : StC κ' := hC'
  have fr' : Eqv _ κ κ' := fr'
  refine ⟨κ', fun ρ1 Q hQ => ?_, hC', fr'.mo (fun a s h => ?_), fun k hk => ?_⟩
  · have ocn : mI κ' 1269 3 = nI l.length := (fr'.I (by rintro ⟨j, j1, h⟩; have := hlu _ (getD_mem j1); omega)).trans oc.1
    have r := run (ρ1, Q) (fun K2 => by
      show X_X10_settle_2_s G Q 1269 K2 (nI l.length, mg κ' ρ1)
      simp (disch := omega) only [X_X10_settle_2_s, mI_c, hL.1, lT, lF, tT, tF, eF, pF, zT, m1F, vT, cI, true_and, and_true, true_implies, false_implies, not_false_eq_true, not_true_eq_false, forall_eq, implies_true, ocn]
      exact hQ)
    exact r
  · rintro ⟨j, j1, j2⟩
    exact h ⟨_, getD_mem j1, j2⟩
  · obtain ⟨i', h1, h2⟩ := List.getElem_of_mem hk
    have := dn' i' h1
    rw [show l.getD i' 0 = k by rw [List.getD_eq_getElem?_getD, List.getElem?_eq_getElem h1]; exact h2] at this
    exact this
end SETTLE
