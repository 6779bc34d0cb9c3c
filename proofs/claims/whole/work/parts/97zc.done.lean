section DONE
variable {G : Lay} {nn sc n r0 r1 w : Nat} {mc rt hc K N N1 us : Nat → Nat} {κ κ' κ0 ρ ρ' ρ0 κ1 ρ1 : Mem} {u k f q : Nat} {l L : List Nat} {st : Nat → Int32} {rk : Nat → Nat} {C : Int32 → Int32 → Int32}
theorem j_done (hG : Ly G) (hX : Ctx nn sc n mc rt hc K N1 r1 us κ0 ρ0 u st l C) (hC0 : ClsC r1 us ρ0 C) (hnd : ∀ i j, i < j → j < l.length → l.getD i 0 ≠ l.getD j 0) (hM : Mid n mc rt K C u κ0 ρ0 N r0 κ ρ) (hl : Log w κ ρ) (hw : w ≤ 120) (hF : FinS us u st ρ0 r1 r0 κ ρ) :
    ∃ κ' ρ', (∀ ρ1 (Q : Int32 → Mem → Prop), Q 0 (mg κ' ρ1) → X_X10_settle G (fun s14 => X_X10_perform_70 G Q 1269 (533 + 184 * u) s14) 1269 (mg κ ρ1)) ∧ (∀ κ1 (Q : Int32 → Mem → Prop), Q 0 (mg κ1 ρ') → X_X12_writeUnit_167 G Q 1282 (nI u) 0 (mg κ1 ρ)) ∧ RelA nn sc n mc rt hc K N r0 us κ' ρ' ∧ mI ρ' 1316 u = 1 ∧ Eqv qkC κ κ' ∧ Eqv qkM ρ ρ' := by
  have hL := hG.1
  have hMM := hG.2.2.2
  obtain ⟨hA0, hu, ho0, hst, hlm, hll, oc0, hcl, hcnt⟩ := id hX
  have hU := hM.U hA0 hu
  have hS := hM.S hA0 hu
  obtain ⟨⟨hC, hm⟩, gC0, gM0, hR, hY, hrc⟩ := id hM
  obtain ⟨⟨hC00, hm00, hNu⟩, xT, xF, xS, xN, xK, xR, xU, xW, xD, xY, xZ⟩ := id hA0
  have hs2 := xS.s2
  have z0 : ∀ a j, 1316 ≤ a → a ≤ 1325 → mI ρ a j = mI ρ0 a j := fun a j h1 h2 => gM0.I (wfM_u h1 h2)
  have ho : mI ρ 1316 u = 1 := (z0 _ _ (by decide) (by decide)).trans ho0
  obtain ⟨h60, o2, o3, o4, o5⟩ := hU.op hu ho
  have oc := oc0.mid gC0 hu
  have hlu : ∀ k, k ∈ l → k < us u := fun k hk => ((hlm k).mp hk).1
  have hst' : ∀ k, k < us u → mI ρ 1319 (60 * u + k) = st k := fun k hk => (z0 _ _ (by decide) (by decide)).trans (hst k hk)
  have h1C : ∀ k, k < us u → mI κ (537 + 184 * u + 3 * k) 1 = st k := fun k hk => (o5 k hk).1.trans (hst' k hk)
  have h3w : ∀ k, st k = 3 → wrB ρ0 u st k = false := fun k s3 => dP_f (by
    rintro (h | ⟨h, -⟩) <;> rw [s3] at h <;> exact absurd h (by decide))
  have h9 : ∀ k, k ∈ l → st k ≠ 3 → mI κ (537 + 184 * u + 3 * k) 9 = if wrB ρ0 u st k = true then 1 else 0 := fun k hk s3 => by
    obtain ⟨hku, hall⟩ := (hlm k).mp hk
    rcases of_decide_eq_true hall with s1 | s2 | s3'
    · by_cases hb : bitsN (chgM ρ0 (60 * u + k)) 16 = 0
      · rw [((hF.2.1 k hku s1).1 hb), if_neg]
        rw [show wrB ρ0 u st k = false from dP_f (by
          rintro (h | ⟨-, h⟩)
          · rw [s1] at h; exact absurd h (by decide)
          · exact h hb)]
        decide
      · rw [((hF.2.1 k hku s1).2 hb).1, show wrB ρ0 u st k = true from dP_t (Or.inr ⟨s1, hb⟩)]; rfl
    · rw [(hF.1 k hku s2).1, show wrB ρ0 u st k = true from dP_t (Or.inl s2)]; rfl
    · exact absurd s3' s3
  have hrow : ∀ k, k < us u → wrB ρ0 u st k = true → hasR r0 ρ (mI ρ0 1320 (60 * u + k)) (mI ρ0 1321 (60 * u + k)) := fun k hk hw => by
    rcases dP_o hw with s2 | ⟨s1, hb⟩
    · exact (hF.1 k hk s2).2
    · exact ((hF.2.1 k hk s1).2 hb).2
  obtain ⟨V, hV⟩ : ∃ V : Nat → Int32, ∀ k, k < us u → wrB ρ0 u st k = true → ∃ r, r < r0 ∧ mI ρ 1305 r = mI ρ 1320 (60 * u + k) ∧ mI ρ 1306 r = mI ρ 1321 (60 * u + k) ∧ V k = mI ρ 1308 r := by
    have : ∀ k, ∃ v : Int32, k < us u → wrB ρ0 u st k = true → ∃ r, r < r0 ∧ mI ρ 1305 r = mI ρ 1320 (60 * u + k) ∧ mI ρ 1306 r = mI ρ 1321 (60 * u + k) ∧ v = mI ρ 1308 r := fun k => by
      by_cases h : k < us u ∧ wrB ρ0 u st k = true
      · obtain ⟨r, r1, r2, r3⟩ := hrow k h.1 h.2
        exact ⟨mI ρ 1308 r, fun _ _ => ⟨r, r1, by rw [z0 1320 _ (by decide) (by decide)]; exact r2, by rw [z0 1321 _ (by decide) (by decide)]; exact r3, rfl⟩⟩
      · exact ⟨0, fun h1 h2 => absurd ⟨h1, h2⟩ h⟩
    exact Classical.axiomOfChoice this
  obtain ⟨κ', rc, hC', fc, dc⟩ := c_settle (ρ0 := ρ0) (st := st) hG hC hu h60 hR oc hll hlu hnd h1C h9 (V := V) (fun k hk hw => by
    obtain ⟨r, r1, r2, r3, r4⟩ := hV k hk hw
    obtain ⟨f, hf, i, hi, hro⟩ := hR.2.2.2.2.2.1 r r1
    obtain ⟨t1, t2, t3, -⟩ := o5 k hk
    exact ⟨f, i, r, hf, hi, r1, hro, by rw [t2, ← r2]; exact hro.1, by rw [t3, ← r3], r4⟩) h3w
  obtain ⟨ρ', rm, hm', fm, dm⟩ := m_settle (ρ0 := ρ0) (st := st) hG hm hu h60 o3 hR hS hst' (fun k m hk => by
    unfold chgM
    rw [z0 _ _ (by decide) (by decide), z0 _ _ (by decide) (by decide)]) (fun k hk s1 => by
    obtain ⟨f, f1, f2, c, c1, c2, c3, c4, -⟩ := hA0.liv hu ho0 hk (Or.inl ((hst k hk).trans s1))
    refine ⟨c, c1, (z0 _ _ (by decide) (by decide)).trans c2, fun m m1 m2 => ?_⟩
    rw [z0 _ _ (by decide) (by decide), z0 _ _ (by decide) (by decide)]; exact c4 m m1 m2) hV
  have z1 : ∀ a j, a ≠ 1319 → a ≠ 1323 → a ≠ 1325 → mI ρ' a j = mI ρ a j := fun a j x1 x2 x3 => fm.I (by rintro ⟨k, k1, h⟩; unfold stM at h; omega)
  have zc : ∀ a s, (∀ k, k < 60 → a ≠ 537 + 184 * u + 3 * k ∧ a ≠ 539 + 184 * u + 3 * k) → mI κ' a s = mI κ a s := fun a s h => fc.I (by rintro ⟨k, k1, h2⟩; have := h k (by have := hlu k k1; omega); omega)
  -- no write in cells of parts
  have gC : Eqv (afr_RUWYZC sc) κ0 κ' := (gC0.mo fun a k hh => by
    rintro (h | h | h | ⟨j, h1, h2, h3⟩) <;> rcases hh with hh | hh | hh | hh | hh | hh
    all_goals first | (obtain ⟨u', j', hu', hj', e1', e2'⟩ := hh <;> omega) | (simp only [tC, fC, sCc, kC, rC, wC, dC] at hh; omega)).tr (fc.mo fun a k hh => by
    rintro ⟨j, j1, h⟩
    have := hlu j j1
    rcases hh with hh | hh | hh | hh | hh | hh
    all_goals first | (obtain ⟨u', j', hu', hj', e1', e2'⟩ := hh <;> omega) | (simp only [tC, fC, sCc, kC, rC, wC, dC] at hh; omega))
  have gM : Eqv afr_RUWYZM ρ0 ρ' := (gM0.mo fun a k hh => by
    rintro (h | h | h) <;> rcases hh with hh | hh | hh | hh | hh
    all_goals (simp only [tM, fM, sM, kM, rM, uM, wM, dM] at hh; omega)).tr (fm.mo fun a k hh => by
    rintro ⟨j, j1, h⟩
    unfold stM at h
    rcases hh with hh | hh | hh | hh | hh
    all_goals (simp only [tM, fM, sM, kM, rM, uM, wM, dM] at hh; omega))
  have smM : Eqv sM ρ ρ' := fm.mo fun a k hh => by
    rintro ⟨j, j1, h⟩
    unfold stM at h
    simp only [sM] at hh
    omega
  have rmM : Eqv rM ρ ρ' := fm.mo fun a k hh => by
    rintro ⟨j, j1, h⟩
    unfold stM at h
    simp only [rM] at hh
    omega
  have rcC : Eqv rC κ κ' := fc.mo fun a k hh => by
    rintro ⟨j, j1, h⟩
    have := hlu j j1
    simp only [rC] at hh
    omega
  have yR : RelR N r0 κ' ρ' := hR.fr rcC rmM
  have yY : RowsW n r0 mc rt K ρ' := hY.fr hS rmM smM
  have hl' : Log w κ' ρ' := hl.fr (fc.mo fun a k hh => by
    rintro ⟨j, j1, h⟩
    have := hlu j j1
    simp only [wC] at hh
    omega) (fm.mo fun a k hh => by
    rintro ⟨j, j1, h⟩
    unfold stM at h
    simp only [wM] at hh
    omega)
  have hop : mI ρ' 1316 u = 1 := (z1 _ _ (by decide) (by decide) (by decide)).trans ho
  have nw : ∀ k, k < us u → k ∉ l → sT ρ0 u st k = st k ∧ wrB ρ0 u st k = false := fun k hk hn => by
    have hna : ¬ (st k = 1 ∨ st k = 2 ∨ st k = 3) := fun h => hn ((hlm k).mpr ⟨hk, decide_eq_true h⟩)
    have hw : wrB ρ0 u st k = false := dP_f (by
      rintro (h | ⟨h, -⟩)
      · exact hna (Or.inr (Or.inl h))
      · exact hna (Or.inl h))
    refine ⟨?_, hw⟩
    unfold sT
    rw [if_neg (fun h => hna (Or.inr (Or.inr h))), hw]; rfl
  have yU : RelU us κ' ρ' := fun v hv => by
    by_cases e : v = u
    · subst e
      refine ⟨?_, Or.inr ⟨hop, h60, ?_, ?_, ?_, fun k hk => ?_⟩⟩
      · rw [zc _ _ (fun k hk => by omega), z1 _ _ (by decide) (by decide) (by decide)]; exact (hU v hv).1
      · rw [zc _ _ (fun k hk => by omega)]; exact o2
      · rw [z1 _ _ (by decide) (by decide) (by decide)]; exact o3
      · rw [zc _ _ (fun k hk => by omega), z1 _ _ (by decide) (by decide) (by decide)]; exact o4
      · obtain ⟨t1, t2, t3, t4, t5, t6⟩ := o5 k hk
        obtain ⟨d1, d2, d3⟩ := dm k hk
        by_cases hkl : k ∈ l
        · obtain ⟨e1, e2, e3⟩ := dc k hkl
          have oth : ∀ s, s ≠ 1 → s ≠ 5 → mI κ' (537 + 184 * v + 3 * k) s = mI κ (537 + 184 * v + 3 * k) s := fun s x1 x2 => fc.I (by rintro ⟨j, j1, h⟩; have := hlu j j1; omega)
          have vals : ∀ s, mI κ' (538 + 184 * v + 3 * k) s = mI κ (538 + 184 * v + 3 * k) s := fun s => fc.I (by rintro ⟨j, j1, h⟩; have := hlu j j1; omega)
          refine ⟨by rw [e1, d1], ?_, ?_, ?_, by rw [e2, d2, t5], fun m hm => ⟨?_, ?_⟩⟩
          · rw [oth _ (by decide) (by decide), z1 _ _ (by decide) (by decide) (by decide)]; exact t2
          · rw [oth _ (by decide) (by decide), z1 _ _ (by decide) (by decide) (by decide)]; exact t3
          · rw [oth _ (by decide) (by decide), z1 _ _ (by decide) (by decide) (by decide)]; exact t4
          · rw [vals, z1 _ _ (by decide) (by decide) (by decide)]; exact (t6 m hm).1
          · rw [e3 m hm, d3 m hm, (t6 m hm).1, (t6 m hm).2]
        · obtain ⟨n1, n2⟩ := nw k hk hkl
          have oth : ∀ s, mI κ' (537 + 184 * v + 3 * k) s = mI κ (537 + 184 * v + 3 * k) s := fun s => fc.I (by rintro ⟨j, j1, h⟩; have := hlu j j1; have : j ≠ k := (fun e => hkl (e ▸ j1)); omega)
          have vals : ∀ s, mI κ' (538 + 184 * v + 3 * k) s = mI κ (538 + 184 * v + 3 * k) s := fun s => fc.I (by rintro ⟨j, j1, h⟩; have := hlu j j1; omega)
          have cops : ∀ s, mI κ' (539 + 184 * v + 3 * k) s = mI κ (539 + 184 * v + 3 * k) s := fun s => fc.I (by rintro ⟨j, j1, h⟩; have := hlu j j1; have : j ≠ k := (fun e => hkl (e ▸ j1)); omega)
          refine ⟨by rw [oth, d1, n1, h1C k hk], ?_, ?_, ?_, by rw [oth, d2, n2, t5]; rfl, fun m hm => ⟨?_, ?_⟩⟩
          · rw [oth, z1 _ _ (by decide) (by decide) (by decide)]; exact t2
          · rw [oth, z1 _ _ (by decide) (by decide) (by decide)]; exact t3
          · rw [oth, z1 _ _ (by decide) (by decide) (by decide)]; exact t4
          · rw [vals, z1 _ _ (by decide) (by decide) (by decide)]; exact (t6 m hm).1
          · rw [cops, d3 m hm, n2, (t6 m hm).2]; rfl
    · exact RelU1.fr (us' := us) (hU v hv) rfl (fc.mo fun a s hh => by
        rintro ⟨j, j1, h⟩
        have := hlu j j1
        rcases hh with hh | ⟨j', hj', hh⟩ <;> omega) (fm.mo fun a s hh => by
        rintro ⟨j, j1, h⟩
        unfold stM at h
        simp only [uM1] at hh
        omega)
  -- the objects
  have oth : ∀ v k a, v < 4 → v ≠ u → mI ρ0 1316 v = 1 → k < us v → 1319 ≤ a → a ≤ 1323 → mI ρ' a (60 * v + k) = mI ρ0 a (60 * v + k) := fun v k a hv hne hov hk a1 a2 => by
    have := (xU.op hv hov).1
    rw [fm.I (by rintro ⟨j, j1, h⟩; unfold stM at h; omega), z0 _ _ (by omega) (by omega)]
  have opn : ∀ v, mI ρ' 1316 v = mI ρ0 1316 v := fun v => (z1 _ _ (by decide) (by decide) (by decide)).trans (z0 _ _ (by decide) (by decide))
  have own : ∀ a j, (a = 1320 ∨ a = 1321 ∨ a = 1322 ∨ a = 1324) → mI ρ' a j = mI ρ0 a j := fun a j ha => (z1 _ _ (by omega) (by omega) (by omega)).trans (z0 _ _ (by omega) (by omega))
  have s0M : Eqv sM ρ0 ρ' := (gM0.mo wf_SM).tr smM
  have no2 : ∀ k, k < us u → mI ρ' 1319 (60 * u + k) ≠ 2 := fun k hk h => by
    rw [(dm k hk).1] at h
    unfold sT at h
    by_cases s3 : st k = 3
    · rw [if_pos s3] at h; exact absurd h (by decide)
    · rw [if_neg s3] at h
      by_cases hw : wrB ρ0 u st k = true
      · rw [if_pos hw] at h; exact absurd h (by decide)
      · rw [if_neg hw] at h; exact hw (dP_t (Or.inl h))
  have live1 : ∀ k, k < us u → mI ρ' 1319 (60 * u + k) = 1 → st k = 1 ∨ st k = 2 := fun k hk h => by
    rw [(dm k hk).1] at h
    unfold sT at h
    by_cases s3 : st k = 3
    · rw [if_pos s3] at h; exact absurd h (by decide)
    · rw [if_neg s3] at h
      by_cases hw : wrB ρ0 u st k = true
      · rcases dP_o hw with s2 | ⟨s1, -⟩
        · exact Or.inr s2
        · exact Or.inl s1
      · rw [if_neg hw] at h; exact Or.inl h
  have no3 : ∀ k, k < us u → mI ρ' 1319 (60 * u + k) ≠ 3 := fun k hk h => by
    rw [(dm k hk).1] at h
    unfold sT at h
    by_cases s3 : st k = 3
    · rw [if_pos s3] at h; exact absurd h (by decide)
    · rw [if_neg s3] at h
      by_cases hw : wrB ρ0 u st k = true
      · rw [if_pos hw] at h; exact absurd h (by decide)
      · rw [if_neg hw] at h; exact s3 h
  have yZ : ThsW n r0 mc rt K us ρ' := by
    obtain ⟨x1, x2, x3, -⟩ := xZ
    refine ⟨fun v hv hov k hk => ?_, fun v hv hov k k' hk hk' e1 e2 => ?_, fun v v' hv hv' hov hov' k k' hk hk' s1 s2 e1 e2 => ?_, C, fun r hr => ?_, fun v hv hov k hk hl => ?_⟩
    · rw [opn] at hov
      obtain ⟨s, f, x, y1, y2, y3, y4, y5, y6, y7, y8, y9, y10⟩ := x1 v hv hov k hk
      by_cases e : v = u
      · subst e
        have hs' : ∃ s', s' ≤ 4 ∧ mI ρ' 1319 (60 * v + k) = nI s' ∧ (s' = 1 → 1 ≤ s ∧ s ≤ 3) := by
          have y2' := y2
          rw [hst k hk] at y2'
          by_cases hs3 : st k = 3
          · exact ⟨4, by decide, by rw [(dm k hk).1]; unfold sT; rw [if_pos hs3]; rfl, fun h => by omega⟩
          · by_cases hw : wrB ρ0 v st k = true
            · refine ⟨1, by decide, by rw [(dm k hk).1]; unfold sT; rw [if_neg hs3, if_pos hw]; rfl, fun _ => ?_⟩
              rcases dP_o hw with h | ⟨h, -⟩
              · have := (eI (b := 2) (by omega) (by decide)).mp (y2'.symm.trans h); omega
              · have := (eI (b := 1) (by omega) (by decide)).mp (y2'.symm.trans h); omega
            · exact ⟨s, y1, by rw [(dm k hk).1]; unfold sT; rw [if_neg hs3, if_neg hw, y2'], fun h => by omega⟩
        obtain ⟨s', p1, p2, p3⟩ := hs'
        refine ⟨s', f, x, p1, p2, y3, by rw [own _ _ (by omega)]; exact y4, y5, y6, by rw [own _ _ (by omega)]; exact y7, by rw [own _ _ (by omega)]; exact y8, fun q1 q2 => ?_, fun q1 => ?_⟩
        · have e1 : s' = 1 := by
            have h2 : s' ≠ 2 := fun h => no2 k hk (by rw [p2, h]; rfl)
            have h3 : s' ≠ 3 := fun h => no3 k hk (by rw [p2, h]; rfl)
            omega
          obtain ⟨c, a1, a2, a3, a4, a5⟩ := y9 (p3 e1).1 (p3 e1).2
          have h16 := xS.m16 a1
          have h12 := xS.le
          refine ⟨c, a1, by rw [own _ _ (by omega)]; exact a2, a3, fun m m1 m2 => ?_, fun m m1 => ?_⟩
          · refine ⟨by rw [own _ _ (by omega)]; exact (a4 m m1 m2).1, ?_⟩
            rw [(dm k hk).2.2 m m2, z0 _ _ (by decide) (by decide), z0 _ _ (by decide) (by decide), (a4 m m1 m2).1, (a4 m m1 m2).2]
            cases wrB ρ0 v st k <;> rfl
          · rw [own 1324 _ (by omega), sM.me (a := 1290) s0M (by decide) (by decide) (by omega) (by omega), sM.me (a := 1291) s0M (by decide) (by decide) (by omega) (by omega)]; exact a5 m m1
        · rw [q1] at p2; exact absurd p2 (no2 k hk)
      · have ov := (xU.op hv hov).1
        refine ⟨s, f, x, y1, by rw [oth v k _ hv e hov hk (by decide) (by decide)]; exact y2, y3, by rw [oth v k _ hv e hov hk (by decide) (by decide)]; exact y4, y5, y6, by rw [oth v k _ hv e hov hk (by decide) (by decide)]; exact y7, by rw [oth v k _ hv e hov hk (by decide) (by decide)]; exact y8, fun q1 q2 => ?_, fun q1 => ⟨by rw [oth v k _ hv e hov hk (by decide) (by decide)]; exact (y10 q1).1, fun r hr hh => ?_⟩⟩
        · obtain ⟨c, a1, a2, a3, a4, a5⟩ := y9 q1 q2
          have h16 := xS.m16 a1
          have h12 := xS.le
          refine ⟨c, a1, by rw [own _ _ (by omega)]; exact a2, a3, fun m m1 m2 => ⟨by rw [own _ _ (by omega)]; exact (a4 m m1 m2).1, ?_⟩, fun m m1 => ?_⟩
          · rw [fm.I (by rintro ⟨j, j1, h⟩; unfold stM at h; omega), z0 _ _ (by decide) (by decide)]; exact (a4 m m1 m2).2
          · rw [own 1324 _ (by omega), sM.me (a := 1290) s0M (by decide) (by decide) (by omega) (by omega), sM.me (a := 1291) s0M (by decide) (by decide) (by omega) (by omega)]; exact a5 m m1
        · rw [rmM.I (Or.inr ⟨by decide, by decide⟩), rmM.I (Or.inr ⟨by decide, by decide⟩)] at hh
          rcases hF.2.2 r hr with ⟨r', b1, b2, b3⟩ | hn
          · exact (y10 q1).2 r' b1 ⟨b2.symm.trans hh.1, b3.symm.trans hh.2⟩
          · obtain ⟨k', b1, b2, b3, b4⟩ := hn
            have ev := x3 v u hv hu hov ho0 k k' hk b1 (by rw [y2, q1]; rfl) b2 (by rw [y4, b3, hh.1]) (by rw [y7, b4, hh.2])
            exact e ev
    · rw [opn] at hov
      rw [own _ _ (by omega), own _ _ (by omega)] at e1 e2
      exact x2 v hv hov k k' hk hk' e1 e2
    · rw [opn] at hov hov'
      by_cases e : v = u
      · subst e; exact absurd s1 (no2 k hk)
      · by_cases e' : v' = u
        · subst e'; exact absurd s2 (no2 k' hk')
        · rw [oth v k _ hv e hov hk (by decide) (by decide)] at s1
          rw [oth v' k' _ hv' e' hov' hk' (by decide) (by decide)] at s2
          rw [own _ _ (by omega), own _ _ (by omega)] at e1 e2
          exact x3 v v' hv hv' hov hov' k k' hk hk' s1 s2 e1 e2
    · rw [rmM.I (Or.inr ⟨by decide, by decide⟩), rmM.I (Or.inr ⟨by decide, by decide⟩), rmM.I (Or.inr ⟨by decide, by decide⟩)]
      exact hrc r hr
    · rw [opn] at hov
      rw [own _ _ (by omega), own _ _ (by omega), own _ _ (by omega)]
      by_cases e : v = u
      · subst e
        have : mI ρ' 1319 (60 * v + k) = 1 := hl.resolve_right (no2 k hk)
        exact hcl k hk (live1 k hk this)
      · rw [oth v k _ hv e hov hk (by decide) (by decide)] at hl
        exact hC0.2 v hv hov k hk hl
  refine ⟨κ', ρ', fun ρ1 Q hQ => ?_, rm, hA0.fr_RUWYZ hC' hm' gC gM (Nat.le_refl _) yR yU (hl'.W hw) yY yZ, hop, fc.mo fun a k hh => (by rintro ⟨j, -, h⟩; unfold qkC at hh; omega), fm.mo fun a k hh => (by rintro ⟨j, -, h⟩; unfold qkM at hh; unfold stM at h; omega)⟩
  refine rc ρ1 _ ?_
  have e4 : mI κ' 1269 4 = 0 := hl'.1.1
  have t02 : ((0 : Int32) = 2) = False := eq_false (by decide)
  simp (disch := omega) only [X_X10_perform_70, X_X10_perform_83, mI_c, hL.1, lT, lF, tT, tF, eF, pF, zT, m1F, vT, cI, true_and, and_true, true_implies, false_implies, not_false_eq_true, not_true_eq_false, forall_eq, implies_true, e4, t02]
  exact hQ
end DONE
