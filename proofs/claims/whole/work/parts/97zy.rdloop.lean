/-! the loops of readClasses, side by side -/
section RDL
variable {G : Lay} {κ0 ρ0 κ κ' ρ ρ' ρ2 : Mem} {sd z T i c n nw p t lo : Nat} {B : Nat → Nat} {mc rt hc ow tb : Nat → Nat}
def FrC (G : Lay) (r : Int32) (Q : Int32 → Mem → Prop) (σ : Mem) : Prop := (r = 0 → Q 0 σ) ∧ (r = 1 → X_X0_readClasses_74 G Q 7 σ)
def FrM (G : Lay) (r : Int32) (Q : Int32 → Mem → Prop) (σ : Mem) : Prop := (r = 0 → Q 0 σ) ∧ (r = 1 → X_X12_readClasses_54 G Q 1282 13 σ)
theorem DRf.nul (h : DRf sd n nw mc rt hc ow tb κ ρ) (hs : sd = 14 ∨ sd = 275) : DRf sd n nw mc rt hc ow tb (sR κ 7 2 0) ρ := by
  obtain ⟨hB, hN, q⟩ := h
  refine ⟨hB.fr (Eqv.wR ?_ _) Eqv.rf, hN, q⟩
  rintro (⟨c', hc', hh⟩ | hh | hh) <;> omega
theorem j_part (hG : Ly G) : ∀ d i j c nw mc rt hc ow tb κ ρ, T - i = d → j ≤ i → PS κ0 ρ0 sd B z T κ ρ i → DRf sd (c + 1) nw mc rt hc ow tb κ ρ → mR κ 7 2 = sd + 4 + 5 * c → 2 * nw ≤ i → ∃ r κ' ρ', (∀ κ1 (Q : Int32 → Mem → Prop), Q r (mg κ1 ρ') → Lw (X_X12_readClass_292_s G Q 1282 (nI (13 + c))) (mg κ1 ρ)) ∧ ((r = 0 ∧ Fl κ0 ρ0 sd κ' ρ' ∧ ∀ ρ1 (Q : Int32 → Mem → Prop), Q 0 (mg κ' ρ1) → Lw (X_X0_readClasses_19_s G Q 7) (nI j, mg κ ρ1)) ∨ (r = 1 ∧ ∃ i' j' nw' mc' rt' hc' ow' tb', i < i' ∧ j' ≤ i' ∧ PS κ0 ρ0 sd B z T κ' ρ' i' ∧ DRf sd (c + 1) nw' mc' rt' hc' ow' tb' κ' ρ' ∧ mR κ' 7 2 = 0 ∧ 2 * nw' ≤ i' ∧ ∀ ρ1 (Q : Int32 → Mem → Prop), Lw (X_X0_readClasses_19_s G Q 7) (nI j', mg κ' ρ1) → Lw (X_X0_readClasses_19_s G Q 7) (nI j, mg κ ρ1))) := by
  have hL := hG.1
  have hM := hG.2.2.2
  have i70 : ∀ {κ ρ1 : Mem}, StC κ → mR (mg κ ρ1) 7 0 = 3 := fun {κ ρ1} hC => (mR_c (by decide) _).trans hC.1.2.2.2.2.2.2.2.2.2.2.2.2.2.1
  have g9 : gT G 3 = 9 := hL.1.2.2.2.1
  have g1 : gT G 7 = 1 := hL.1.2.2.2.2.2.2.2.2.2.2.1
  intro d
  induction d using Nat.strongRecOn with
  | _ d ih =>
    intro i j c nw mc rt hc ow tb κ ρ hd hji hP hR h72 h2
    obtain ⟨⟨hC, hm⟩, ⟨hTC, hTM⟩, -, h71, hs⟩ := id hP
    have hz := hTC.zz
    have stp : ∀ ρ1 (Q : Int32 → Mem → Prop) (K : Int32 × Mem → Prop), X_X0_readPart G (fun w3 s2 => X_X0_readClasses_61 G Q K 7 (nI j) w3 s2) 7 (mg κ ρ1) → X_X0_readClasses_19_s G Q 7 K (nI j, mg κ ρ1) := fun ρ1 Q K hh => by
      have e72 : ¬ mR (mg κ ρ1) 7 2 = 0 := by rw [mR_c (by decide), h72]; omega
      refine brF (fun e => ?_) ⟨g1, brF e72 ⟨g1, brF e72 hh⟩⟩
      have := (tI (a := 3000) (by decide) (by omega)).mp e
      omega
    by_cases ac : sgA B z (pos B z i) 125
    · have hi : i < T := hTC.lt (by rw [ac.1]; decide)
      obtain ⟨ρ2, r2, s2, e2, t2⟩ := m_adv hM hm hTC hTM hi
      have hP2 := hP.ps hi s2 e2 t2
      have hR2 : DRf sd (c + 1) nw mc rt hc ow tb (psC κ i) ρ2 := hR.av hs e2
      refine ⟨1, sR (psC κ i) 7 2 0, ρ2, fun κ1 Q hQ => Lw.fin (fun K => ?_), Or.inr ⟨rfl, i + 1, j + 1, nw, mc, rt, hc, ow, tb, by omega, by omega, hP2.fr (hP2.1.1.wR (Or.inr (Or.inr (Or.inl ⟨rfl, by decide⟩)))) s2 (Eqv.wR (fun h => h (by omega)) _) Eqv.rf, hR2.nul hs, R_is _ _ _ _, by omega, fun ρ1 Q hh => Lw.stp (fun K hK => stp ρ1 Q K ?_) hh⟩⟩
      · exact ⟨hM.1, m_is1 (s := 125) hM hTM ac (br1 (r2 κ1 _ ⟨bz1, hQ⟩))⟩
      · unfold X_X0_readPart X_X0_readPart_0
        rw [i70 hC]
        refine ⟨g1, g9, c_takes1 hL hC hTC (aS ac (by decide) rfl) (br1 ?_)⟩
        intro s12 hs12
        refine ⟨bz1, ?_⟩
        subst hs12
        rw [sR_c (by decide)]
        refine br1 ?_
        rw [nI_1]
        exact hK
    · -- a hook or a member
      have aft : ∀ (XC XM : (Int32 → Mem → Prop) → Mem → Prop) (P : Mem → Mem → Prop), Jo κ0 ρ0 sd XC XM P κ ρ → (∀ ρ1 (Q : Int32 → Mem → Prop) (K : Int32 × Mem → Prop), XC (fun w s => X_X0_readPart_44 G (fun w3 s2 => X_X0_readClasses_61 G Q K 7 (nI j) w3 s2) w s) (mg κ ρ1) → X_X0_readPart G (fun w3 s2 => X_X0_readClasses_61 G Q K 7 (nI j) w3 s2) 7 (mg κ ρ1)) → (∀ κ1 (Q : Int32 → Mem → Prop) (K : Mem → Prop), XM (fun w10 s9 => ((w10 = 0 → X_X12_readClass_329 G Q s9) ∧ (¬ w10 = 0 → K s9))) (mg κ1 ρ) → X_X12_readClass_292_s G Q 1282 (nI (13 + c)) K (mg κ1 ρ)) → (∀ κ' ρ', P κ' ρ' → ∃ i' nw' mc' rt' hc' ow' tb', i < i' ∧ PS κ0 ρ0 sd B z T κ' ρ' i' ∧ DRf sd (c + 1) nw' mc' rt' hc' ow' tb' κ' ρ' ∧ mR κ' 7 2 = mR κ 7 2 ∧ 2 * nw' ≤ i') → ∃ r κ' ρ', (∀ κ1 (Q : Int32 → Mem → Prop), Q r (mg κ1 ρ') → Lw (X_X12_readClass_292_s G Q 1282 (nI (13 + c))) (mg κ1 ρ)) ∧ ((r = 0 ∧ Fl κ0 ρ0 sd κ' ρ' ∧ ∀ ρ1 (Q : Int32 → Mem → Prop), Q 0 (mg κ' ρ1) → Lw (X_X0_readClasses_19_s G Q 7) (nI j, mg κ ρ1)) ∨ (r = 1 ∧ ∃ i' j' nw' mc' rt' hc' ow' tb', i < i' ∧ j' ≤ i' ∧ PS κ0 ρ0 sd B z T κ' ρ' i' ∧ DRf sd (c + 1) nw' mc' rt' hc' ow' tb' κ' ρ' ∧ mR κ' 7 2 = 0 ∧ 2 * nw' ≤ i' ∧ ∀ ρ1 (Q : Int32 → Mem → Prop), Lw (X_X0_readClasses_19_s G Q 7) (nI j', mg κ' ρ1) → Lw (X_X0_readClasses_19_s G Q 7) (nI j, mg κ ρ1))) := by
        intro XC XM P hJ gC gM hPo
        obtain ⟨r, κa, ρa, rC, rM, hh⟩ := hJ
        rcases hh with ⟨rfl, hF⟩ | ⟨rfl, hp⟩
        · exact ⟨0, κa, ρa, fun κ1 Q hQ => Lw.fin (fun K => gM κ1 Q K (rM κ1 _ (br0 ⟨bz0, hQ⟩))), Or.inl ⟨rfl, hF, fun ρ1 Q hQ => Lw.fin (fun K => stp ρ1 Q K (gC ρ1 Q K (rC ρ1 _ ⟨bz0, br0 ⟨bz0, hQ⟩⟩)))⟩⟩
        · obtain ⟨i', nw', mc', rt', hc', ow', tb', l1, hPa, hRa, e72, l2⟩ := hPo κa ρa hp
          have hza := hPa.2.1.1.zz
          have sC : ∀ ρ1 (Q : Int32 → Mem → Prop), Lw (X_X0_readClasses_19_s G Q 7) (nI (j + 1), mg κa ρ1) → Lw (X_X0_readClasses_19_s G Q 7) (nI j, mg κ ρ1) := fun ρ1 Q hh => Lw.stp (fun K hK => stp ρ1 Q K (gC ρ1 Q K (rC ρ1 _ ⟨bz1, br1 (by rw [nI_1]; exact hK)⟩))) hh
          have sM : ∀ κ1 (Q : Int32 → Mem → Prop), Lw (X_X12_readClass_292_s G Q 1282 (nI (13 + c))) (mg κ1 ρa) → Lw (X_X12_readClass_292_s G Q 1282 (nI (13 + c))) (mg κ1 ρ) := fun κ1 Q hh => Lw.stp (fun K hK => gM κ1 Q K (rM κ1 _ (br1 hK))) hh
          obtain ⟨r, κb, ρb, f1, f2⟩ := ih (T - i') (by omega) i' (j + 1) c nw' mc' rt' hc' ow' tb' κa ρa rfl (by omega) hPa hRa (e72.trans h72) l2
          refine ⟨r, κb, ρb, fun κ1 Q hQ => sM κ1 Q (f1 κ1 Q hQ), ?_⟩
          rcases f2 with ⟨rfl, hF, fr⟩ | ⟨rfl, i2, j2, nw2, mc2, rt2, hc2, ow2, tb2, x1, x2, x3, x4, x5, x6, x7⟩
          · exact Or.inl ⟨rfl, hF, fun ρ1 Q hQ => sC ρ1 Q (fr ρ1 Q hQ)⟩
          · exact Or.inr ⟨rfl, i2, j2, nw2, mc2, rt2, hc2, ow2, tb2, by omega, x2, x3, x4, x5, x6, fun ρ1 Q hh => sC ρ1 Q (x7 ρ1 Q hh)⟩
      by_cases ah : twd B z (pos B z i) = nI 15
      · have hi : i < T := hTC.lt (by rw [((twd_k (by decide)).mp ah).1]; decide)
        refine aft _ _ _ (j_hook hG hP hR h72 hi) (fun ρ1 Q K hh => ?_) (fun κ1 Q K hh => ?_) (fun κ' ρ' hp => ?_)
        · unfold X_X0_readPart X_X0_readPart_0
          rw [i70 hC]
          refine ⟨g1, g9, c_takes0 hL hC hTC (nS ac (by decide) rfl) (br0 ?_)⟩
          rw [i70 hC]
          exact ⟨g9, c_isAt1 hL hC hTC (aK ah (by decide) rfl) (br1 hh)⟩
        · exact ⟨hM.1, m_is0 (s := 125) hM hTM (by decide) ac (br0 (m_toldWord hM hTM (brT ah hh)))⟩
        · obtain ⟨i', l1, hPa, hRa, e72⟩ := hp
          exact ⟨i', nw, _, _, _, _, _, l1, hPa, hRa, e72, by omega⟩
      · refine aft _ _ _ (j_rdMember hG hP hR h72 h2) (fun ρ1 Q K hh => ?_) (fun κ1 Q K hh => ?_) (fun κ' ρ' hp => ?_)
        · unfold X_X0_readPart X_X0_readPart_0
          rw [i70 hC]
          refine ⟨g1, g9, c_takes0 hL hC hTC (nS ac (by decide) rfl) (br0 ?_)⟩
          rw [i70 hC]
          exact ⟨g9, c_isAt0 hL hC hTC (nK ah (by decide) rfl) (br0 hh)⟩
        · exact ⟨hM.1, m_is0 (s := 125) hM hTM (by decide) ac (br0 (m_toldWord hM hTM (brF ah hh)))⟩
        · obtain ⟨i', nw', l1, hPa, l2, hRa, e72⟩ := hp
          exact ⟨i', nw', _, _, _, _, _, l1, hPa, hRa, e72, l2⟩
theorem j_rdloop (hG : Ly G) : ∀ d i j n nw mc rt hc ow tb κ ρ, T - i = d → j ≤ i → PS κ0 ρ0 sd B z T κ ρ i → DRf sd n nw mc rt hc ow tb κ ρ → mR κ 7 2 = 0 → 2 * nw ≤ i → ∃ r κ' ρ', (∀ ρ1 (Q : Int32 → Mem → Prop), FrC G r Q (mg κ' ρ1) → Lw (X_X0_readClasses_19_s G Q 7) (nI j, mg κ ρ1)) ∧ (∀ κ1 (Q : Int32 → Mem → Prop), FrM G r Q (mg κ1 ρ') → Lw (X_X12_readClasses_27_s G Q 1282) (mg κ1 ρ)) ∧ ((r = 0 ∧ Fl κ0 ρ0 sd κ' ρ') ∨ (r = 1 ∧ ∃ n nw mc rt hc ow tb, PS κ0 ρ0 sd B z T κ' ρ' T ∧ DRf sd n nw mc rt hc ow tb κ' ρ')) := by
  have hL := hG.1
  have hM := hG.2.2.2
  have i70 : ∀ {κ ρ1 : Mem}, StC κ → mR (mg κ ρ1) 7 0 = 3 := fun {κ ρ1} hC => (mR_c (by decide) _).trans hC.1.2.2.2.2.2.2.2.2.2.2.2.2.2.1
  have g9 : gT G 3 = 9 := hL.1.2.2.2.1
  have g1 : gT G 7 = 1 := hL.1.2.2.2.2.2.2.2.2.2.2.1
  intro d
  induction d using Nat.strongRecOn with
  | _ d ih =>
    intro i j n nw mc rt hc ow tb κ ρ hd hji hP hR h72 h2
    obtain ⟨⟨hC, hm⟩, ⟨hTC, hTM⟩, -, h71, hs⟩ := id hP
    have hz := hTC.zz
    have e72 : ∀ ρ1, mR (mg κ ρ1) 7 2 = 0 := fun ρ1 => by rw [mR_c (by decide), h72]
    have hj3 : ¬ (3000 : Int32) < nI j := fun e => by
      have := (tI (a := 3000) (by decide) (by omega)).mp e
      omega
    have e51 : ∀ κ1, mI (mg κ1 ρ) 1282 51 = nI (tkd B z (pos B z i)) := fun κ1 => by rw [mI_m (by decide)]; exact hTM.2.2.2.1
    by_cases hT : i = T
    · subst hT
      refine ⟨1, κ, ρ, fun ρ1 Q hh => Lw.fin (fun K => brF hj3 ⟨g1, brT (e72 ρ1) ?_⟩), fun κ1 Q hh => Lw.fin (fun K => ⟨hM.1, brT ?_ (hh.2 rfl)⟩), Or.inr ⟨rfl, n, nw, mc, rt, hc, ow, tb, hP, hR⟩⟩
      · rw [i70 hC]
        exact ⟨g9, c_isEnd1 hL hC hTC rfl (br1 (hh.2 rfl))⟩
      · rw [e51, hTC.end_iff.mpr rfl]; rfl
    · have hi : i < T := by omega
      have nz : ∀ κ1, ¬ mI (mg κ1 ρ) 1282 51 = 0 := fun κ1 e => by
        rw [e51] at e
        have h5 : tkd B z (pos B z i) < 5 := by rcases tk_any (B := B) (z := z) (p := pos B z i) with e | e | e | e | e <;> omega
        have := (eI (b := 0) (by omega) (by decide)).mp e
        exact hT (hTC.end_iff.mp this)
      have stp : ∀ ρ1 (Q : Int32 → Mem → Prop) (K : Int32 × Mem → Prop), X_X0_readHead G (fun w3 s2 => X_X0_readClasses_61 G Q K 7 (nI j) w3 s2) 7 (mg κ ρ1) → X_X0_readClasses_19_s G Q 7 K (nI j, mg κ ρ1) := fun ρ1 Q K hh => by
        refine brF hj3 ⟨g1, brT (e72 ρ1) ?_⟩
        rw [i70 hC]
        exact ⟨g9, c_isEnd0 hL hC hTC hi (br0 ⟨g1, brT (e72 ρ1) hh⟩)⟩
      by_cases a0 : twd B z (pos B z i) = nI 0
      · obtain ⟨ρ2, r2, s2, e2, t2⟩ := m_adv hM hm hTC hTM hi
        have hP2 := hP.ps hi s2 e2 t2
        have hR2 : DRf sd n nw mc rt hc ow tb (psC κ i) ρ2 := hR.av hs e2
        obtain ⟨⟨hC2, hm2⟩, ⟨hTC2, hTM2⟩, -⟩ := id hP2
        have st2 : ∀ ρ1 (Q : Int32 → Mem → Prop) (K : Int32 × Mem → Prop), HdC G (fun w3 s2 => X_X0_readClasses_61 G Q K 7 (nI j) w3 s2) (mg (psC κ i) ρ1) → X_X0_readClasses_19_s G Q 7 K (nI j, mg κ ρ1) := fun ρ1 Q K hh => by
          refine stp ρ1 Q K ?_
          unfold X_X0_readHead X_X0_readHead_0
          rw [i70 hC]
          exact ⟨g1, g9, c_expects1 hL hC hTC (aK a0 (by decide) rfl) (br1 hh)⟩
        have st2M : ∀ κ1 (Q : Int32 → Mem → Prop) (K : Mem → Prop), X_X12_readClass G (fun w5 s4 => ((w5 = 0 → X_X12_readClasses_49 G Q s4) ∧ (¬ w5 = 0 → K s4))) 1282 (mg κ1 ρ2) → X_X12_readClasses_27_s G Q 1282 K (mg κ1 ρ) := fun κ1 Q K hh => ⟨hM.1, brF (nz κ1) (m_needsWord1 (k := 0) hM hTM a0 r2 (br1 hh))⟩
        obtain ⟨r, κa, ρa, rC, rM, hh⟩ := j_class hG hP2 hR2
        rcases hh with ⟨rfl, hF⟩ | ⟨rfl, i', mc', rt', hc', ow', tb', l1, hPa, hRa, h72a⟩
        · exact ⟨0, κa, ρa, fun ρ1 Q hQ => Lw.fin (fun K => st2 ρ1 Q K (rC ρ1 _ (br0 ⟨bz0, hQ.1 rfl⟩))), fun κ1 Q hQ => Lw.fin (fun K => st2M κ1 Q K (rM κ1 _ ⟨fun _ => br0 ⟨bz0, hQ.1 rfl⟩, fun e => absurd e (by decide)⟩)), Or.inl ⟨rfl, hF⟩⟩
        · have hza := hPa.2.1.1.zz
          obtain ⟨r, κb, ρb, f1, f2⟩ := j_part hG (T - i') i' (j + 1) n nw mc' rt' hc' ow' tb' κa ρa rfl (by omega) hPa hRa h72a (by omega)
          have sC : ∀ ρ1 (Q : Int32 → Mem → Prop), Lw (X_X0_readClasses_19_s G Q 7) (nI (j + 1), mg κa ρ1) → Lw (X_X0_readClasses_19_s G Q 7) (nI j, mg κ ρ1) := fun ρ1 Q hh => Lw.stp (fun K hK => st2 ρ1 Q K (rC ρ1 _ (br1 (by rw [nI_1]; exact hK)))) hh
          have sM : ∀ κ1 (Q : Int32 → Mem → Prop) (K : Mem → Prop), ((r = 0 → X_X12_readClasses_49 G Q (mg κ1 ρb)) ∧ (¬ r = 0 → K (mg κ1 ρb))) → X_X12_readClasses_27_s G Q 1282 K (mg κ1 ρ) := fun κ1 Q K hh => st2M κ1 Q K (rM κ1 _ ⟨fun e => absurd e (by decide), fun _ => f1 κ1 (fun w5 s4 => ((w5 = 0 → X_X12_readClasses_49 G Q s4) ∧ (¬ w5 = 0 → K s4))) hh⟩)
          rcases f2 with ⟨rfl, hF, fr⟩ | ⟨rfl, i2, j2, nw2, mc2, rt2, hc2, ow2, tb2, x1, x2, x3, x4, x5, x6, x7⟩
          · exact ⟨0, κb, ρb, fun ρ1 Q hQ => sC ρ1 Q (fr ρ1 Q (hQ.1 rfl)), fun κ1 Q hQ => Lw.fin (fun K => sM κ1 Q K (br0 ⟨bz0, hQ.1 rfl⟩)), Or.inl ⟨rfl, hF⟩⟩
          · obtain ⟨r, κc, ρc, g1', g2', g3'⟩ := ih (T - i2) (by omega) i2 j2 (n + 1) nw2 mc2 rt2 hc2 ow2 tb2 κb ρb rfl x2 x3 x4 x5 x6
            exact ⟨r, κc, ρc, fun ρ1 Q hQ => sC ρ1 Q (x7 ρ1 Q (g1' ρ1 Q hQ)), fun κ1 Q hQ => Lw.stp (fun K hK => sM κ1 Q K (br1 hK)) (g2' κ1 Q hQ), g3'⟩
      · refine ⟨0, flC κ (flt B z (pos B z i)) (pos B z i), flM ρ (flt B z (pos B z i)) (pos B z i), fun ρ1 Q hQ => Lw.fin (fun K => stp ρ1 Q K ?_), fun κ1 Q hQ => Lw.fin (fun K => ⟨hM.1, brF (nz κ1) (m_needsWord0 (k := 0) hM hTM a0 (br0 ⟨bz0, hQ.1 rfl⟩))⟩), Or.inl ⟨rfl, hP.fail _⟩⟩
        unfold X_X0_readHead X_X0_readHead_0
        rw [i70 hC]
        exact ⟨g1, g9, c_expects0 hL hC hTC (nK a0 (by decide) rfl) (br0 ⟨bz0, br0 ⟨bz0, hQ.1 rfl⟩⟩)⟩
end RDL
