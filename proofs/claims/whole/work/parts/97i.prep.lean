section PREP
variable {G : Lay} {nn sc n r0 : Nat} {mc rt hc K N us : Nat → Nat} {κ κ' ρ ρ' κ1 ρ1 : Mem} {u k t : Nat} {st : Nat → Int32} {rk : Nat → Nat} {l : List Nat}
/-- what the reference does behind the keeping of its rows -/
def restM (G : Lay) (Q : Int32 → Mem → Prop) (u : Int32) (σ : Mem) : Prop := X_X12_insertAll G (fun w4 s3 => ((w4 = 0 → X_X12_writeUnit_141 G Q 1282 u s3) ∧ (¬ w4 = 0 → X_X12_changeAll G (fun w6 s5 => ((w6 = 0 → X_X12_writeUnit_141 G Q 1282 u s5) ∧ (¬ w6 = 0 → X_X12_deleteAll G (fun w8 s7 => ((w8 = 0 → X_X12_writeUnit_141 G Q 1282 u s7) ∧ (¬ w8 = 0 → X_X12_writeUnit_167 G Q 1282 u (0 : Int32) s7))) 1282 u s5))) 1282 u s3))) 1282 u σ
def restC (G : Lay) (Q : Int32 → Mem → Prop) (U : Nat) (σ : Mem) : Prop := X_X10_insertAll G (fun w9 s8 => ((w9 = 0 → X_X10_perform_59 G Q 1269 U s8) ∧ (¬ w9 = 0 → X_X10_changeAll G (fun w11 s10 => ((w11 = 0 → X_X10_perform_59 G Q 1269 U s10) ∧ (¬ w11 = 0 → X_X10_deleteAll G (fun w13 s12 => ((w13 = 0 → X_X10_perform_59 G Q 1269 U s12) ∧ (¬ w13 = 0 → X_X10_settle G (fun s14 => X_X10_perform_70 G Q 1269 U s14) 1269 s12))) 1269 s10))) 1269 s8))) 1269 U σ
theorem RelA.rkokC (hA : RelA nn sc n mc rt hc K N r0 us κ ρ) (hnn : nn ≤ 512) (hu : u < 4) (ho : mI ρ 1316 u = 1) (hst : ∀ k, k < us u → mI ρ 1319 (60 * u + k) = st k) : ∀ a b, a < us u → b < us u → sAll st a = true → sAll st b = true → (ahC κ (537 + 184 * u + 3 * a) (537 + 184 * u + 3 * b) ↔ rkM ρ u a < rkM ρ u b) := by
  have h12 := hA.2.2.2.1.le
  have lv : ∀ a, a < us u → sAll st a = true → ∃ c x, c < 12 ∧ x ≤ 512 ∧ mI κ (537 + 184 * u + 3 * a) 4 = nI c ∧ mI κ (537 + 184 * u + 3 * a) 3 = nI x ∧ rkM ρ u a = 1000 * c + x := fun a ha sa => by
    have sa := of_decide_eq_true sa
    rw [← hst a ha] at sa
    obtain ⟨c, f, x, c1, c2, c3, c4, c5, c6, c7, c8, c9, -⟩ := hA.lv3 hu ho ha sa
    obtain ⟨t1, t2, t3, t4, -⟩ := (hA.th hu ho ha).2.1
    refine ⟨c, x, by omega, by omega, t4.trans c2, t3.trans c9, ?_⟩
    unfold rkM
    rw [c2, c9, cI (by omega), cI (by omega)]
  intro a b ha hb sa sb
  obtain ⟨c, x, c1, c2, c3, c4, c6⟩ := lv a ha sa
  obtain ⟨d, y, d1, d2, d3, d4, d6⟩ := lv b hb sb
  rw [c6, d6]
  unfold ahC
  rw [c3, c4, d3, d4, eI (by omega) (by omega), lI (by omega) (by omega), lI (by omega) (by omega)]
  omega
/-- what is kept of the rows -/
def qkC (a _k : Nat) : Prop := a = 8 ∨ a = 9
def qkM (a k : Nat) : Prop := a = 1282 ∧ (k = 80 ∨ k = 89) ∨ 1339 ≤ a ∧ a ≤ 1344 ∨ a = 1290 ∨ a = 1291
def KeptC (N : Nat → Nat) (κ0 κ : Mem) : Prop := ∀ f, f < 12 → CopF 1276 270 N κ0 κ f
def KeptM (r0 : Nat) (ρ0 ρ : Mem) : Prop := mI ρ 1282 33 = nI r0 ∧ (∀ r, r < r0 → mI ρ 1311 r = mI ρ0 1305 r ∧ mI ρ 1312 r = mI ρ0 1306 r ∧ mI ρ 1313 r = mI ρ0 1307 r ∧ mI ρ 1314 r = mI ρ0 1308 r) ∧ ∀ k, k < 16 * r0 → mI ρ 1315 k = mI ρ0 1309 k
theorem j_prep (hG : Ly G) (hnn : nn ≤ 512) (hA : RelA nn sc n mc rt hc K N r0 us κ ρ) (hu : u < 4) (ho : mI ρ 1316 u = 1) :
    ∃ κ' ρ' st rk l, (∀ ρ1 (Q : Int32 → Mem → Prop), restC G Q (533 + 184 * u) (mg κ' ρ1) → X_X10_perform G Q 1269 (533 + 184 * u) (mg κ ρ1)) ∧ (∀ κ1 (Q : Int32 → Mem → Prop), restM G Q (nI u) (mg κ1 ρ') → X_X12_writeUnit G Q 1282 (nI u) (mg κ1 ρ)) ∧
    RelA nn sc n mc rt hc K N r0 us κ' ρ' ∧ mI ρ' 1316 u = 1 ∧ (∀ k, k < us u → mI ρ' 1319 (60 * u + k) = st k) ∧ RkOK ρ' u (us u) st rk ∧ l = ordN rk (sAll st) (us u) ∧ OrdC κ' u l ∧ (∀ k, k < us u → mI κ' (537 + 184 * u + 3 * k) 9 = 0 ∧ mI κ' (537 + 184 * u + 3 * k) 10 = 0) ∧
    (mI ρ' 1282 64 = 0 ∧ mI ρ' 1282 65 = -1 ∧ mI ρ' 1282 66 = -1 ∧ mI ρ' 1282 67 = -1 ∧ mI ρ' 1282 68 = -1 ∧ mI ρ' 1282 69 = 0) ∧ (Eqv qkC κ κ' ∧ Eqv qkM ρ ρ') ∧ KeptC N κ' κ' ∧ KeptM r0 ρ' ρ' := by
  have hL := hG.1
  have hM := hG.2.2.2
  obtain ⟨⟨hC, hm, hNu⟩, xT, xF, xS, xN, xK, xR, xU, xW, xD, xY, xZ⟩ := id hA
  have hs2 := xS.s2
  obtain ⟨o1, o2, o3, o4, o5⟩ := xU.op hu ho
  -- the outcome is set back
  obtain ⟨κa, eκa⟩ : ∃ x, x = sI (sI (sI (sI (sI (sI κ 1269 4 0) 1269 5 (-1)) 1269 6 (-1)) 1269 7 (-1)) 1269 8 (-1)) 1269 9 0 := ⟨_, rfl⟩
  obtain ⟨ρa, eρa⟩ : ∃ x, x = sI (sI (sI (sI (sI (sI ρ 1282 64 0) 1282 65 (-1)) 1282 66 (-1)) 1282 67 (-1)) 1282 68 (-1)) 1282 69 0 := ⟨_, rfl⟩
  have A1 : RelA nn sc n mc rt hc K N r0 us κa ρa := by
    subst eκa eρa
    refine hA.fr_W ((((((hC.wI _ _ _).wI _ _ _).wI _ _ _).wI _ _ _).wI _ _ _).wI _ _ _) ((((((hm.wI _ _ _).wI _ _ _).wI _ _ _).wI _ _ _).wI _ _ _).wI _ _ _) ((((((Eqv.wI (by
    intro hh
    rcases hh with hh | hh | hh | hh | hh | hh | hh | hh
    all_goals first | (obtain ⟨u', hu', hh | ⟨j', hj', hh⟩⟩ := hh <;> omega) | (obtain ⟨u', j', hu', hj', e1', e2'⟩ := hh <;> omega) | (simp only [tC, fC, sCc, kC, rC, wC, dC, tM, fM, sM, kM, rM, uM, wM, dM] at hh; omega)) _).sI (by
    intro hh
    rcases hh with hh | hh | hh | hh | hh | hh | hh | hh
    all_goals first | (obtain ⟨u', hu', hh | ⟨j', hj', hh⟩⟩ := hh <;> omega) | (obtain ⟨u', j', hu', hj', e1', e2'⟩ := hh <;> omega) | (simp only [tC, fC, sCc, kC, rC, wC, dC, tM, fM, sM, kM, rM, uM, wM, dM] at hh; omega)) _).sI (by
    intro hh
    rcases hh with hh | hh | hh | hh | hh | hh | hh | hh
    all_goals first | (obtain ⟨u', hu', hh | ⟨j', hj', hh⟩⟩ := hh <;> omega) | (obtain ⟨u', j', hu', hj', e1', e2'⟩ := hh <;> omega) | (simp only [tC, fC, sCc, kC, rC, wC, dC, tM, fM, sM, kM, rM, uM, wM, dM] at hh; omega)) _).sI (by
    intro hh
    rcases hh with hh | hh | hh | hh | hh | hh | hh | hh
    all_goals first | (obtain ⟨u', hu', hh | ⟨j', hj', hh⟩⟩ := hh <;> omega) | (obtain ⟨u', j', hu', hj', e1', e2'⟩ := hh <;> omega) | (simp only [tC, fC, sCc, kC, rC, wC, dC, tM, fM, sM, kM, rM, uM, wM, dM] at hh; omega)) _).sI (by
    intro hh
    rcases hh with hh | hh | hh | hh | hh | hh | hh | hh
    all_goals first | (obtain ⟨u', hu', hh | ⟨j', hj', hh⟩⟩ := hh <;> omega) | (obtain ⟨u', j', hu', hj', e1', e2'⟩ := hh <;> omega) | (simp only [tC, fC, sCc, kC, rC, wC, dC, tM, fM, sM, kM, rM, uM, wM, dM] at hh; omega)) _).sI (by
    intro hh
    rcases hh with hh | hh | hh | hh | hh | hh | hh | hh
    all_goals first | (obtain ⟨u', hu', hh | ⟨j', hj', hh⟩⟩ := hh <;> omega) | (obtain ⟨u', j', hu', hj', e1', e2'⟩ := hh <;> omega) | (simp only [tC, fC, sCc, kC, rC, wC, dC, tM, fM, sM, kM, rM, uM, wM, dM] at hh; omega)) _) ((((((Eqv.wI (by
    intro hh
    rcases hh with hh | hh | hh | hh | hh | hh | hh
    all_goals first | (obtain ⟨u', hu', hh | ⟨j', hj', hh⟩⟩ := hh <;> omega) | (obtain ⟨u', j', hu', hj', e1', e2'⟩ := hh <;> omega) | (simp only [tC, fC, sCc, kC, rC, wC, dC, tM, fM, sM, kM, rM, uM, wM, dM] at hh; omega)) _).sI (by
    intro hh
    rcases hh with hh | hh | hh | hh | hh | hh | hh
    all_goals first | (obtain ⟨u', hu', hh | ⟨j', hj', hh⟩⟩ := hh <;> omega) | (obtain ⟨u', j', hu', hj', e1', e2'⟩ := hh <;> omega) | (simp only [tC, fC, sCc, kC, rC, wC, dC, tM, fM, sM, kM, rM, uM, wM, dM] at hh; omega)) _).sI (by
    intro hh
    rcases hh with hh | hh | hh | hh | hh | hh | hh
    all_goals first | (obtain ⟨u', hu', hh | ⟨j', hj', hh⟩⟩ := hh <;> omega) | (obtain ⟨u', j', hu', hj', e1', e2'⟩ := hh <;> omega) | (simp only [tC, fC, sCc, kC, rC, wC, dC, tM, fM, sM, kM, rM, uM, wM, dM] at hh; omega)) _).sI (by
    intro hh
    rcases hh with hh | hh | hh | hh | hh | hh | hh
    all_goals first | (obtain ⟨u', hu', hh | ⟨j', hj', hh⟩⟩ := hh <;> omega) | (obtain ⟨u', j', hu', hj', e1', e2'⟩ := hh <;> omega) | (simp only [tC, fC, sCc, kC, rC, wC, dC, tM, fM, sM, kM, rM, uM, wM, dM] at hh; omega)) _).sI (by
    intro hh
    rcases hh with hh | hh | hh | hh | hh | hh | hh
    all_goals first | (obtain ⟨u', hu', hh | ⟨j', hj', hh⟩⟩ := hh <;> omega) | (obtain ⟨u', j', hu', hj', e1', e2'⟩ := hh <;> omega) | (simp only [tC, fC, sCc, kC, rC, wC, dC, tM, fM, sM, kM, rM, uM, wM, dM] at hh; omega)) _).sI (by
    intro hh
    rcases hh with hh | hh | hh | hh | hh | hh | hh
    all_goals first | (obtain ⟨u', hu', hh | ⟨j', hj', hh⟩⟩ := hh <;> omega) | (obtain ⟨u', j', hu', hj', e1', e2'⟩ := hh <;> omega) | (simp only [tC, fC, sCc, kC, rC, wC, dC, tM, fM, sM, kM, rM, uM, wM, dM] at hh; omega)) _) (Nat.le_refl _) ?_
    refine ⟨?_, ?_, ?_, ?_, ?_, 0, by decide, ?_, ?_, fun i hi => by omega⟩
    all_goals simp (disch := omega) only [I_is, I_sl]
    all_goals rfl
  have oa : mI ρa 1316 u = 1 := by subst eρa; simp (disch := omega) only [I_cl]; exact ho
  have w0 : mI ρa 1282 64 = 0 ∧ mI ρa 1282 65 = -1 ∧ mI ρa 1282 66 = -1 ∧ mI ρa 1282 67 = -1 ∧ mI ρa 1282 68 = -1 ∧ mI ρa 1282 69 = 0 := by
    subst eρa
    refine ⟨?_, ?_, ?_, ?_, ?_, ?_⟩ <;> simp (disch := omega) only [I_is, I_sl]
  have hma := A1.1.2.1
  have hCa := A1.1.1
  obtain ⟨-, p2, p3, p4, p5⟩ := A1.2.2.2.2.2.2.2.1.op hu oa
  -- the order
  have hst : ∀ k, k < us u → mI ρa 1319 (60 * u + k) = (fun k => mI ρa 1319 (60 * u + k)) k := fun _ _ => rfl
  generalize (fun k => mI ρa 1319 (60 * u + k)) = st at hst
  have hrk := A1.rkok hnn hu oa hst
  have hrC := A1.rkokC hnn hu oa hst
  generalize rkM ρa u = rk at hrk hrC
  have esel : ∀ k, k < us u → selA κa u k = sAll st k := fun k hk => by
    unfold selA sAll
    rw [(p5 k hk).1, hst k hk]
  obtain ⟨κb, rb, hCb, frb, ob1, ob2, ob3⟩ := c_arrange (rk := rk) hL hCa hu o1 p2 (fun a b ha hb sa sb => hrC a b ha hb (by rw [← esel a ha]; exact sa) (by rw [← esel b hb]; exact sb)) (fun a b ha hb sa sb => hrk.2 a b ha hb (by rw [← esel a ha]; exact sa) (by rw [← esel b hb]; exact sb))
  rw [ordN_cg (us u) esel] at ob1 ob2
  have ocb : OrdC κb u (ordN rk (sAll st) (us u)) := ⟨ob1, ob2⟩
  have A2 : RelA nn sc n mc rt hc K N r0 us κb ρa := A1.fr hCb hma (frb.mo fun a k hh => by
    rintro (h | h | ⟨j, h1, h2, h3⟩) <;> rcases hh with hh | hh | hh | hh | hh | hh | hh | hh | hh
    all_goals first | (obtain ⟨u', hu', hh | ⟨j', hj', hh⟩⟩ := hh <;> omega) | (obtain ⟨u', j', hu', hj', e1', e2'⟩ := hh <;> omega) | (simp only [tC, fC, sCc, kC, rC, wC, dC] at hh; omega)) Eqv.rf (Nat.le_refl _)
  obtain ⟨l, el⟩ : ∃ l, l = ordN rk (sAll st) (us u) := ⟨_, rfl⟩
  rw [← el] at ocb
  have hlm : ∀ k, k ∈ l → k < us u := fun k hk => by rw [el] at hk; exact (ordN_mem.mp hk).1
  have hll : l.length ≤ 60 := by rw [el]; exact Nat.le_trans (ordN_len hrk.2) o1
  have pl1 : (l.filter (nwB st)).length ≤ 60 := Nat.le_trans (List.length_filter_le _ _) hll
  have pl2 : (l.filter (ldB st)).length ≤ 60 := Nat.le_trans (List.length_filter_le _ _) hll
  have amM : ∀ a k, aM a k → ¬ (a = 1282 ∧ k = 75 ∨ a = 1334) := fun a k hh h => by
    rcases hh with hh | hh | hh | hh | hh | hh | hh | hh
    all_goals (simp only [tM, fM, sM, kM, rM, uM, wM, dM] at hh; omega)
  obtain ⟨ρb, mb, hmb, fmb, omb⟩ := m_order (p := nwB st) (l2 := 1) (l3 := 0) (l4 := 0) hM hma hu o1 p3 hrk el (fun k hk => by
    unfold selO sAll nwB
    rw [hst k hk]
    by_cases h : st k = 2 <;> simp [h])
  have A3 : RelA nn sc n mc rt hc K N r0 us κb ρb := A2.fr hCb hmb Eqv.rf (fmb.mo amM) (Nat.le_refl _)
  have sb : ∀ a k, 1316 ≤ a → a ≤ 1325 → mI ρb a k = mI ρa a k := fun a k h1 h2 => fmb.I (by omega)
  obtain ⟨κc, ρc, c1, c2, A4, fc1, fc2⟩ := j_hkN hG hu o1 hlm hll l.length 0 (by omega) κb ρb A3 ((sb _ _ (by decide) (by decide)).trans oa) (fun k hk => (sb _ _ (by decide) (by decide)).trans (hst k hk)) ocb omb
  have hmc := A4.1.2.1
  have hCc := A4.1.1
  have sc' : ∀ a k, a ≠ 1324 → mI ρc a k = mI ρb a k := fun a k h => fc2.I h
  obtain ⟨ρd, md, hmd, fmd, omd⟩ := m_order (p := ldB st) (l2 := 0) (l3 := 1) (l4 := 0) hM hmc hu o1 (by rw [sc' _ _ (by decide), sb _ _ (by decide) (by decide)]; exact p3) (hrk.fr (ρ' := ρc) o1 hu (fun a k h1 h2 => by rw [sc' _ _ (by omega), sb _ _ (by omega) (by omega)])) el (fun k hk => by
    unfold selO sAll ldB
    rw [sc' _ _ (by decide), sb _ _ (by decide) (by decide), hst k hk]
    by_cases h : st k = 1 <;> simp [h])
  have A5 : RelA nn sc n mc rt hc K N r0 us κc ρd := A4.fr hCc hmd Eqv.rf (fmd.mo amM) (Nat.le_refl _)
  have sd : ∀ a k, 1316 ≤ a → a ≤ 1325 → a ≠ 1324 → mI ρd a k = mI ρa a k := fun a k h1 h2 h3 => by rw [fmd.I (by omega), sc' _ _ h3, sb _ _ h1 h2]
  have occ := ocb.fr fc1 hu
  obtain ⟨κd, ρe, d1, d2, A6, fd1, fd2⟩ := j_hkL hG hu o1 hlm hll l.length 0 (by omega) κc ρd A5 ((sd _ _ (by decide) (by decide) (by decide)).trans oa) (fun k hk => (sd _ _ (by decide) (by decide) (by decide)).trans (hst k hk)) occ omd
  have ocd := occ.fr fd1 hu
  have hCd := A6.1.1
  have hme := A6.1.2.1
  -- the rows are kept
  obtain ⟨κe, e1, hCe, fe1, ke1⟩ := c_copyFrom (RwS.b hL) (RwS.a hL) (Or.inr (by decide)) hCd (fun f hf => A6.2.2.2.2.2.2.1.1 f hf)
  obtain ⟨ρf, e2, hmf, fe2, ke2, ke3, ke4⟩ := m_keepRows hM hme A6.2.2.2.2.2.2.1.le A6.2.2.2.2.2.2.1.2.1
  have A7 : RelA nn sc n mc rt hc K N r0 us κe ρf := A6.fr hCe hmf (fe1.mo fun a k hh => by
    rintro ⟨h, h1⟩
    rcases hh with hh | hh | hh | hh | hh | hh | hh | hh | hh
    all_goals first | (obtain ⟨u', hu', hh | ⟨j', hj', hh⟩⟩ := hh <;> omega) | (obtain ⟨u', j', hu', hj', e1', e2'⟩ := hh <;> omega) | (simp only [tC, fC, sCc, kC, rC, wC, dC] at hh; omega)) (fe2.mo fun a k hh h => by
    rcases hh with hh | hh | hh | hh | hh | hh | hh | hh
    all_goals (simp only [tM, fM, sM, kM, rM, uM, wM, dM] at hh; omega)) (Nat.le_refl _)
  have sf : ∀ a k, 1316 ≤ a → a ≤ 1325 → a ≠ 1324 → mI ρf a k = mI ρa a k := fun a k h1 h2 h3 => by rw [fe2.I (by omega), fd2.I (by unfold hvM; exact h3), sd _ _ h1 h2 h3]
  have sw : ∀ k, 64 ≤ k → k ≤ 69 → mI ρf 1282 k = mI ρa 1282 k := fun k h1 h2 => by rw [fe2.I (by omega), fd2.I (by unfold hvM; decide), fmd.I (by omega), sc' _ _ (by decide), fmb.I (by omega)]
  have qC : Eqv qkC κ κe := by
    refine Eqv.tr (Eqv.tr (Eqv.tr (Eqv.tr (?_ : Eqv qkC κ κa) (frb.mo fun a k hh => ?_)) (fc1.mo fun a k hh j hj => ?_)) (fd1.mo fun a k hh j hj => ?_)) (fe1.mo fun a k hh => ?_)
    · subst eκa
      refine (((((Eqv.wI ?_ _).sI ?_ _).sI ?_ _).sI ?_ _).sI ?_ _).sI ?_ _
      all_goals (unfold qkC; omega)
    · unfold qkC at hh
      rintro (h | h | ⟨j, h1, h2, h3⟩) <;> omega
    · unfold qkC at hh; omega
    · unfold qkC at hh; omega
    · unfold qkC at hh; omega
  have qM : Eqv qkM ρ ρf := by
    refine Eqv.tr (Eqv.tr (Eqv.tr (Eqv.tr (Eqv.tr (?_ : Eqv qkM ρ ρa) (fmb.mo fun a k hh => ?_)) (fc2.mo fun a k hh => ?_)) (fmd.mo fun a k hh => ?_)) (fd2.mo fun a k hh => ?_)) (fe2.mo fun a k hh => ?_)
    · subst eρa
      refine (((((Eqv.wI ?_ _).sI ?_ _).sI ?_ _).sI ?_ _).sI ?_ _).sI ?_ _
      all_goals (unfold qkM; omega)
    · unfold qkM at hh; omega
    · unfold qkM at hh; unfold hvM; omega
    · unfold qkM at hh; omega
    · unfold qkM at hh; unfold hvM; omega
    · unfold qkM at hh; omega
  refine ⟨κe, ρf, st, rk, l, fun ρ1 Q hQ => ?_, fun κ1 Q hQ => ?_, A7, (sf _ _ (by decide) (by decide) (by decide)).trans oa, fun k hk => (sf _ _ (by decide) (by decide) (by decide)).trans (hst k hk), hrk.fr o1 hu (fun a k h1 h2 => sf _ _ (by omega) (by omega) (by omega)), el, ⟨?_, fun i hi => ?_⟩, fun k hk => ?_, ?_, ⟨qC, qM⟩, fun f hf => ?_, ?_, fun r hr => ?_, fun k hk => ?_⟩
  · simp (disch := omega) only [X_X10_perform, X_X10_perform_0, X_X10_begin, X_X10_begin_0, hL.1, true_and, sI_c, forall_eq]
    rw [← eκa]
    refine rb ρ1 _ ?_
    simp only [X_X10_runHooks, X_X10_runHooks_0, X_X10_runHooks_2]
    refine c1 ρ1 _ (d1 ρ1 _ ?_)
    simp (disch := omega) only [mR_c, hCd.1, hL.1, true_and]
    exact e1 ρ1 _ hQ
  · simp (disch := omega) only [X_X12_writeUnit, X_X12_writeUnit_0, hM.1, true_and, sI_m, forall_eq]
    rw [← eρa]
    refine mb κ1 _ ?_
    have r1 := c2 κ1 Q (fun K => by
      simp (disch := omega) only [X_X12_writeUnit_40_s, mI_m, hM.1, lT, lF, tT, tF, eF, pF, zT, m1F, vT, cI, true_and, and_true, true_implies, false_implies, not_false_eq_true, not_true_eq_false, forall_eq, implies_true, (omb.fr fc2).1]
      refine md κ1 _ ?_
      have r2 := d2 κ1 Q (fun K2 => by
        simp (disch := omega) only [X_X12_writeUnit_75_s, mI_m, hM.1, lT, lF, tT, tF, eF, pF, zT, m1F, vT, cI, true_and, and_true, true_implies, false_implies, not_false_eq_true, not_true_eq_false, forall_eq, implies_true, (omd.fr fd2).1]
        exact e2 κ1 _ hQ)
      rw [fpos_0] at r2
      exact r2)
    rw [fpos_0] at r1
    exact r1
  · rw [fe1.I (by omega)]; exact ocd.1
  · rw [fe1.R (by omega)]; exact ocd.2 i hi
  · have e : ∀ s, s = 9 ∨ s = 10 → mI κe (537 + 184 * u + 3 * k) s = mI κb (537 + 184 * u + 3 * k) s := fun s hs => by
      rw [fe1.I (by omega), fd1.I (fun j hj => by omega), fc1.I (fun j hj => by omega)]
    rw [e 9 (Or.inl rfl), e 10 (Or.inr rfl)]
    exact ob3 k hk
  · rw [sw _ (by decide) (by decide), sw _ (by decide) (by decide), sw _ (by decide) (by decide), sw _ (by decide) (by decide), sw _ (by decide) (by decide), sw _ (by decide) (by decide)]
    exact w0
  · obtain ⟨q1, q2⟩ := ke1 f hf
    refine ⟨q1, fun j hj => ?_⟩
    obtain ⟨q3, q4, q5, q6⟩ := q2 j hj
    have e : ∀ a k, 270 ≤ a → a ≤ 274 → mI κe a k = mI κd a k := fun a k h1 h2 => fe1.I (by omega)
    refine ⟨?_, ?_, ?_, fun m hm => ?_⟩
    · rw [e (270 + 1) _ (by decide) (by decide)]; exact q3
    · rw [e (270 + 2) _ (by decide) (by decide)]; exact q4
    · rw [e (270 + 3) _ (by decide) (by decide)]; exact q5
    · rw [e (270 + 4) _ (by decide) (by decide)]; exact q6 m hm
  · exact ke2
  · have e : ∀ a k, 1305 ≤ a → a ≤ 1309 → mI ρf a k = mI ρe a k := fun a k h1 h2 => fe2.I (by omega)
    rw [e 1305 _ (by decide) (by decide), e 1306 _ (by decide) (by decide), e 1307 _ (by decide) (by decide), e 1308 _ (by decide) (by decide)]
    exact ke3 r hr
  · rw [fe2.I (a := 1309) (by omega)]; exact ke4 k hk
end PREP
