/-! readNames, side by side -/
section RNAMES
variable {G : Lay} {κ0 ρ0 κa ρa κ κ' ρ ρ' ρ2 : Mem} {sd z T x k nw : Nat} {B : Nat → Nat}
def nfC (sd x nw a q : Nat) : Prop := ¬ (a = 3 ∧ q = 4 ∨ a = sd ∧ q = 4 ∨ a = x ∧ q = 5 ∨ a = sd + 3 ∧ nw ≤ q)
def nfM (k nw a q : Nat) : Prop := ¬ (a = 1282 ∧ (q = 25 ∨ 49 ≤ q ∧ q ≤ 53) ∨ a = 1293 ∧ q = k ∨ a = 1304 ∧ 1600 + nw ≤ q)
def NI (sd x k nw : Nat) (κ ρ : Mem) (w : Nat) : Prop := (mI κ sd 4 = nI (nw + w) ∧ mI κ x 5 = nI w ∧ mI κ x 4 = nI nw) ∧ (mI ρ 1282 25 = nI (1600 + nw + w) ∧ mI ρ 1293 k = nI w ∧ mI ρ 1292 k = nI (1600 + nw)) ∧ (∀ j, j < w → WdR (mJ κ (sd + 3) (nw + j)) (mJ ρ 1304 (1600 + nw + j))) ∧ ∀ i j, i < w → j < w → mJ ρ 1304 (1600 + nw + i) = mJ ρ 1304 (1600 + nw + j) → i = j
theorem j_names (hG : Ly G) (hx : sd + 64 ≤ x ∧ x < sd + 256) (hk : 208 ≤ k ∧ k < 416) : ∀ d i w κ ρp ρ, T - i = d → RunM0 (fun Q σ => X_X12_advance G Q 1282 σ) ρp ρ → PS κ0 ρ0 sd B z T κ ρ i → NI sd x k nw κ ρ w → 2 * (nw + w) + 1 ≤ i → Eqv (nfC sd x nw) κa κ → Eqv (nfM k nw) ρa ρ → ∃ r κ' ρ', (∀ ρ1 (Q : Int32 → Mem → Prop), Q r (mg κ' ρ1) → Lw (X_X0_readNames_20_s G Q 7 x) (1, nI w, mg κ ρ1)) ∧ (∀ κ1 (Q : Int32 → Mem → Prop), Q r (mg κ1 ρ') → Lw (X_X12_readNames_33_s G Q 1282 (nI k)) (1, mg κ1 ρp)) ∧ ((r = 0 ∧ Fl κ0 ρ0 sd κ' ρ') ∨ (r = 1 ∧ ∃ i' w', i < i' ∧ PS κ0 ρ0 sd B z T κ' ρ' i' ∧ NI sd x k nw κ' ρ' w' ∧ 2 * (nw + w') ≤ i' ∧ Eqv (nfC sd x nw) κa κ' ∧ Eqv (nfM k nw) ρa ρ')) := by
  have hL := hG.1
  have hM := hG.2.2.2
  intro d
  induction d using Nat.strongRecOn with
  | _ d ih =>
    intro i w κ ρp ρ hd ra hP hN h2 ea eb
    obtain ⟨⟨hC, hm⟩, ⟨hTC, hTM⟩, -, h71, hs⟩ := id hP
    obtain ⟨⟨n1, n2, n3⟩, ⟨n4, n5, n6⟩, n7, n8⟩ := id hN
    have hz := hTC.zz
    have hT := hG.s hs
    have hK := hC.ss hs
    have ht : gT G x = 3 := by
      have := hT.2.2 (x - (sd + 64)) (by omega)
      rw [show sd + 64 + (x - (sd + 64)) = x by omega] at this
      exact this
    have n1500 : Int32.ofNat 1500 = nI 1500 := rfl
    by_cases hn : nmT B z (pos B z i)
    · have hi : i < T := hTC.lt (by rw [hn.1]; decide)
      have hw := wd_rel hTM.lo hn.1
      have hw3 : nw + w < 1500 := by omega
      by_cases hdup : ∃ c, c < w ∧ mJ κ (sd + 3) (nw + c) = wdx B z (pos B z i)
      · obtain ⟨c, c1, c2, c3⟩ := fst_lt hdup
        refine ⟨0, flC κ 3 (pos B z i), flM ρ 3 (pos B z i), fun ρ1 Q hQ => Lw.fin (fun K => ?_), fun κ1 Q hQ => Lw.fin (fun K => ?_), Or.inl ⟨rfl, hP.fail 3⟩⟩
        · simp (disch := omega) only [X_X0_readNames_20_s, mI_c, mR_c, mJ_c, sI_c, sJ_c, sR_c, hL.1, hL.2.1, hL.2.2, hC.1, hC.2.1, hC.2.2.1, hT.1, hK.1, h71, n1500, lT, lF, tT, tF, eF, pF, zT, m1F, vT, cI, true_and, and_true, true_implies, false_implies, not_false_eq_true, not_true_eq_false, forall_eq, implies_true, o0F]
          refine c_isName1 hL hC hTC hn (br1 ?_)
          simp (disch := omega) only [mI_c, mR_c, mJ_c, sI_c, sJ_c, sR_c, hL.1, hL.2.1, hL.2.2, hC.1, hC.2.1, hC.2.2.1, hT.1, hK.1, h71, lT, lF, tT, tF, eF, pF, zT, m1F, vT, cI, true_and, and_true, true_implies, false_implies, not_false_eq_true, not_true_eq_false, forall_eq, implies_true]
          refine c_word hL hC hTC hn.1 ?_
          refine c_nameNumber1 hG hC hs hx n2 n3 (by omega) c1 c2 c3 (brF (mI1 (by omega)) ?_)
          simp (disch := omega) only [mI_c, mR_c, mJ_c, sI_c, sJ_c, sR_c, hL.1, hL.2.1, hL.2.2, hC.1, hC.2.1, hC.2.2.1, hT.1, hK.1, h71, lT, lF, tT, tF, eF, pF, zT, m1F, vT, cI, true_and, and_true, true_implies, false_implies, not_false_eq_true, not_true_eq_false, forall_eq, implies_true]
          exact c_refuse hL hC hTC ⟨bz0, hQ⟩
        · simp (disch := omega) only [X_X12_readNames_33_s, lT, lF, tT, tF, eF, pF, zT, m1F, vT, cI, true_and, and_true, true_implies, false_implies, not_false_eq_true, not_true_eq_false, forall_eq, implies_true, o0F, hM.1]
          refine ra κ1 _ (m_isName1 hM hTM hn (br1 ?_))
          unfold X_X12_readNames_55
          refine Lw.at c (fun K' j hj hk' => ?_) (fun K' => ?_)
          · have ne : mJ ρ 1304 (1600 + nw + j) ≠ lN (c6 B (pos B z i) (eTk B z (pos B z i) - pos B z i)) := fun e => c3 j hj (((n7 j (by omega)).iff hw).mpr e)
            simp (disch := omega) only [X_X12_readNames_55_s, mI_m, mR_m, mJ_m, sI_m, sJ_m, hM.1, hM.2, hm.1, hm.2, lT, lF, tT, tF, eF, pF, zT, m1F, vT, cI, true_and, and_true, true_implies, false_implies, not_false_eq_true, not_true_eq_false, forall_eq, implies_true, n4, n5, n6, nI_add, lg_cmp_eq, hTM.2.2.2.2.1 hn.1, ne, nI_1]
            exact hk'
          · have ne : mJ ρ 1304 (1600 + nw + c) = lN (c6 B (pos B z i) (eTk B z (pos B z i) - pos B z i)) := ((n7 c c1).iff hw).mp c2
            simp (disch := omega) only [X_X12_readNames_55_s, mI_m, mR_m, mJ_m, sI_m, sJ_m, hM.1, hM.2, hm.1, hm.2, lT, lF, tT, tF, eF, pF, zT, m1F, vT, cI, true_and, and_true, true_implies, false_implies, not_false_eq_true, not_true_eq_false, forall_eq, implies_true, n4, n5, n6, nI_add, lg_cmp_eq, hTM.2.2.2.2.1 hn.1, ne]
            exact m_fails hM hTM ⟨bz0, hQ⟩
      · have hnd : ∀ j, j < w → mJ κ (sd + 3) (nw + j) ≠ wdx B z (pos B z i) := fun j hj e => hdup ⟨j, hj, e⟩
        obtain ⟨κw, eκ⟩ : ∃ κw, κw = sI (sI (sJ κ (sd + 3) (nw + w) (wdx B z (pos B z i))) sd 4 (nI (nw + w + 1))) x 5 (nI (w + 1)) := ⟨_, rfl⟩
        obtain ⟨ρw, eρ⟩ : ∃ ρw, ρw = sI (sI (sJ ρ 1304 (1600 + nw + w) (lN (c6 B (pos B z i) (eTk B z (pos B z i) - pos B z i)))) 1282 25 (nI (1600 + nw + w + 1))) 1293 k (nI (w + 1)) := ⟨_, rfl⟩
        have hPw : PS κ0 ρ0 sd B z T κw ρw i := by
          subst eκ eρ
          refine hP.fr (((hC.wJ _ _ _).wI _ _ _).wI _ _ _) (((hm.wJ _ _ _).wI _ _ _).wI _ _ _) ((Eqv.sI (Eqv.wJ ?_ _) ?_ _).sI ?_ _) ((Eqv.sI (Eqv.wJ ?_ _) ?_ _).sI ?_ _)
          · exact fun h => h (by omega)
          · exact fun h => h (by omega)
          · exact fun h => h (by omega)
          · exact fun h => h (Or.inr (by unfold upM; omega))
          · exact fun h => h (Or.inl (by omega))
          · exact fun h => h (Or.inr (by unfold upM; omega))
        obtain ⟨⟨hCw, hmw⟩, ⟨hTCw, hTMw⟩, -, h71w, -⟩ := id hPw
        obtain ⟨ρ3, r3, s3, e3, t3⟩ := m_adv hM hmw hTCw hTMw hi
        have hP3 := hPw.ps hi s3 e3 t3
        have hN3 : NI sd x k nw (psC κw i) ρ3 (w + 1) := by
          have g1 : ∀ q, mJ ρ3 1304 q = mJ ρw 1304 q := fun q => e3.J (by unfold avM; omega)
          refine ⟨⟨?_, ?_, ?_⟩, ⟨?_, ?_, ?_⟩, fun j hj => ?_, fun a b ha hb => ?_⟩
          · subst eκ; simp (disch := omega) only [I_is, I_cl, I_sl, J_is, J_cl, J_sl, R_is, R_cl, R_sl, mI_sJ, mI_sR, mJ_sI, mJ_sR, mR_sI, mR_sJ]; rw [show nw + (w + 1) = nw + w + 1 by omega]
          · subst eκ; simp (disch := omega) only [I_is, I_cl, I_sl, J_is, J_cl, J_sl, R_is, R_cl, R_sl, mI_sJ, mI_sR, mJ_sI, mJ_sR, mR_sI, mR_sJ]
          · subst eκ; simp (disch := omega) only [I_is, I_cl, I_sl, J_is, J_cl, J_sl, R_is, R_cl, R_sl, mI_sJ, mI_sR, mJ_sI, mJ_sR, mR_sI, mR_sJ]; exact n3
          · rw [e3.I (by unfold avM; omega)]; subst eρ; simp (disch := omega) only [I_is, I_cl, I_sl, J_is, J_cl, J_sl, R_is, R_cl, R_sl, mI_sJ, mI_sR, mJ_sI, mJ_sR, mR_sI, mR_sJ]; rw [show 1600 + nw + (w + 1) = 1600 + nw + w + 1 by omega]
          · rw [e3.I (by unfold avM; omega)]; subst eρ; simp (disch := omega) only [I_is, I_cl, I_sl, J_is, J_cl, J_sl, R_is, R_cl, R_sl, mI_sJ, mI_sR, mJ_sI, mJ_sR, mR_sI, mR_sJ]
          · rw [e3.I (by unfold avM; omega)]; subst eρ; simp (disch := omega) only [I_is, I_cl, I_sl, J_is, J_cl, J_sl, R_is, R_cl, R_sl, mI_sJ, mI_sR, mJ_sI, mJ_sR, mR_sI, mR_sJ]; exact n6
          · rw [g1]
            subst eκ eρ
            by_cases e : j = w
            · subst e
              simp (disch := omega) only [I_is, I_cl, I_sl, J_is, J_cl, J_sl, R_is, R_cl, R_sl, mI_sJ, mI_sR, mJ_sI, mJ_sR, mR_sI, mR_sJ]
              exact hw
            · simp (disch := omega) only [I_is, I_cl, I_sl, J_is, J_cl, J_sl, R_is, R_cl, R_sl, mI_sJ, mI_sR, mJ_sI, mJ_sR, mR_sI, mR_sJ]
              exact n7 j (by omega)
          · rw [g1, g1]
            subst eρ
            have ne : ∀ j, j < w → mJ ρ 1304 (1600 + nw + j) ≠ lN (c6 B (pos B z i) (eTk B z (pos B z i) - pos B z i)) := fun j hj e => hnd j hj (((n7 j hj).iff hw).mpr e)
            by_cases e1 : a = w
            · by_cases e2 : b = w
              · intro _; omega
              · subst e1
                simp (disch := omega) only [I_is, I_cl, I_sl, J_is, J_cl, J_sl, R_is, R_cl, R_sl, mI_sJ, mI_sR, mJ_sI, mJ_sR, mR_sI, mR_sJ]
                intro e; exact absurd e.symm (ne b (by omega))
            · by_cases e2 : b = w
              · subst e2
                simp (disch := omega) only [I_is, I_cl, I_sl, J_is, J_cl, J_sl, R_is, R_cl, R_sl, mI_sJ, mI_sR, mJ_sI, mJ_sR, mR_sI, mR_sJ]
                intro e; exact absurd e (ne a (by omega))
              · simp (disch := omega) only [I_is, I_cl, I_sl, J_is, J_cl, J_sl, R_is, R_cl, R_sl, mI_sJ, mI_sR, mJ_sI, mJ_sR, mR_sI, mR_sJ]
                exact n8 a b (by omega) (by omega)
        have ea3 : Eqv (nfC sd x nw) κa (psC κw i) := by
          subst eκ
          refine ea.tr ((((Eqv.wJ ?_ _).sI ?_ _).sI ?_ _).sI ?_ _)
          all_goals exact fun h => h (by omega)
        have eb3 : Eqv (nfM k nw) ρa ρ3 := by
          refine (eb.tr ?_).tr (e3.mo fun a q h => by unfold nfM at h; unfold avM; omega)
          subst eρ
          refine ((Eqv.wJ ?_ _).sI ?_ _).sI ?_ _
          all_goals exact fun h => h (by omega)
        -- one step of each loop
        have stC : ∀ (r : Int32) (κ5 : Mem), (∀ (ρ1 : Mem) (Q : Int32 → Mem → Prop), Q r (mg κ5 ρ1) → X_X8_takes G (fun w28 s27 => Q w28 s27) 3 44 (mg (psC κw i) ρ1)) → ∀ (ρ1 : Mem) (Q : Int32 → Mem → Prop) (K : Int32 × Int32 × Mem → Prop), K (r, nI (w + 1), mg κ5 ρ1) → X_X0_readNames_20_s G Q 7 x K (1, nI w, mg κ ρ1) := fun r κ5 hr ρ1 Q K hK' => by
          simp (disch := omega) only [X_X0_readNames_20_s, mI_c, mR_c, mJ_c, sI_c, sJ_c, sR_c, hL.1, hL.2.1, hL.2.2, hC.1, hC.2.1, hC.2.2.1, hT.1, hK.1, h71, n1500, lT, lF, tT, tF, eF, pF, zT, m1F, vT, cI, true_and, and_true, true_implies, false_implies, not_false_eq_true, not_true_eq_false, forall_eq, implies_true, o0F]
          refine c_isName1 hL hC hTC hn (br1 ?_)
          simp (disch := omega) only [mI_c, mR_c, mJ_c, sI_c, sJ_c, sR_c, hL.1, hL.2.1, hL.2.2, hC.1, hC.2.1, hC.2.2.1, hT.1, hK.1, h71, lT, lF, tT, tF, eF, pF, zT, m1F, vT, cI, true_and, and_true, true_implies, false_implies, not_false_eq_true, not_true_eq_false, forall_eq, implies_true]
          refine c_word hL hC hTC hn.1 ?_
          refine c_nameNumber0 hG hC hs hx n2 (Or.inr n3) (by omega) hnd (brT rfl ?_)
          simp (disch := omega) only [mI_c, mR_c, mJ_c, sI_c, sJ_c, sR_c, hL.1, hL.2.1, hL.2.2, hC.1, hC.2.1, hC.2.2.1, hT.1, hK.1, h71, n1500, n1, lT, lF, tT, tF, eF, pF, zT, m1F, vT, cI, true_and, and_true, true_implies, false_implies, not_false_eq_true, not_true_eq_false, forall_eq, implies_true]
          refine c_word hL hC hTC hn.1 ?_
          have h71' : mR κ 7 1 = sd := h71
          simp (disch := omega) only [mI_c, mR_c, mJ_c, sI_c, sJ_c, sR_c, hL.1, hL.2.1, hL.2.2, hC.1, hC.2.1, hC.2.2.1, hT.1, hK.1, h71, n1, n2, ht, lT, lF, tT, tF, eF, pF, zT, m1F, vT, cI, true_and, and_true, true_implies, false_implies, not_false_eq_true, not_true_eq_false, forall_eq, implies_true, I_is, I_cl, I_sl, J_is, J_cl, J_sl, R_is, R_cl, R_sl, mI_sJ, mI_sR, mJ_sI, mJ_sR, mR_sI, mR_sJ, nI_1]
          rw [← eκ]
          refine c_pass hL hCw hTCw hi ?_
          simp (disch := omega) only [mI_c, mR_c, mJ_c, sI_c, sJ_c, sR_c, hL.1, hL.2.1, hL.2.2, hC.1, hC.2.1, hC.2.2.1, hCw.1, lT, lF, tT, tF, eF, pF, zT, m1F, vT, cI, true_and, and_true, true_implies, false_implies, not_false_eq_true, not_true_eq_false, forall_eq, implies_true, I_is, I_cl, I_sl, J_is, J_cl, J_sl, R_is, R_cl, R_sl, mI_sJ, mI_sR, mJ_sI, mJ_sR, mR_sI, mR_sJ]
          exact hr ρ1 (fun r s => K (r, nI (w + 1), s)) hK'
        have stM : ∀ (r : Int32), (∀ (κ1 : Mem) (Q : Int32 → Mem → Prop), Q r (mg κ1 ρ3) → X_X12_is G (fun w13 s12 => Q w13 s12) 1282 44 (mg κ1 ρ3)) → ∀ (κ1 : Mem) (Q : Int32 → Mem → Prop) (K : Int32 × Mem → Prop), K (r, mg κ1 ρ3) → X_X12_readNames_33_s G Q 1282 (nI k) K (1, mg κ1 ρp) := fun r hr κ1 Q K hK' => by
          simp (disch := omega) only [X_X12_readNames_33_s, lT, lF, tT, tF, eF, pF, zT, m1F, vT, cI, true_and, and_true, true_implies, false_implies, not_false_eq_true, not_true_eq_false, forall_eq, implies_true, o0F, hM.1]
          refine ra κ1 _ (m_isName1 hM hTM hn (br1 ?_))
          unfold X_X12_readNames_55
          refine Lw.at w (fun K' j hj hk' => ?_) (fun K' => ?_)
          · have ne : mJ ρ 1304 (1600 + nw + j) ≠ lN (c6 B (pos B z i) (eTk B z (pos B z i) - pos B z i)) := fun e => hnd j hj (((n7 j (by omega)).iff hw).mpr e)
            simp (disch := omega) only [X_X12_readNames_55_s, mI_m, mR_m, mJ_m, sI_m, sJ_m, hM.1, hM.2, hm.1, hm.2, lT, lF, tT, tF, eF, pF, zT, m1F, vT, cI, true_and, and_true, true_implies, false_implies, not_false_eq_true, not_true_eq_false, forall_eq, implies_true, n4, n5, n6, nI_add, lg_cmp_eq, hTM.2.2.2.2.1 hn.1, ne, nI_1]
            exact hk'
          · simp (disch := omega) only [X_X12_readNames_55_s, mI_m, mR_m, mJ_m, sI_m, sJ_m, hM.1, hM.2, hm.1, hm.2, lT, lF, tT, tF, eF, pF, zT, m1F, vT, cI, true_and, and_true, true_implies, false_implies, not_false_eq_true, not_true_eq_false, forall_eq, implies_true, I_is, I_cl, I_sl, J_is, J_cl, J_sl, R_is, R_cl, R_sl, mI_sJ, mI_sR, mJ_sI, mJ_sR, mR_sI, mR_sJ, n4, n5, nI_add, hTM.2.2.2.2.1 hn.1, nI_1]
            rw [← eρ]
            exact r3 κ1 _ (hr κ1 (fun r s => K (r, s)) hK')
        obtain ⟨⟨hC3, hm3⟩, ⟨hTC3, hTM3⟩, -, h713, -⟩ := id hP3
        by_cases hco : sgA B z (pos B z (i + 1)) 44
        · have hi1 : i + 1 < T := hTC3.lt (by rw [hco.1]; decide)
          obtain ⟨ρ4, r4, s4, e4, t4⟩ := m_adv hM hm3 hTC3 hTM3 hi1
          have hP4 := hP3.ps hi1 s4 e4 t4
          have hN4 : NI sd x k nw (psC (psC κw i) (i + 1)) ρ4 (w + 1) := by
            obtain ⟨⟨m1, m2, m3⟩, ⟨m4, m5, m6⟩, m7, m8⟩ := hN3
            have g1 : ∀ q, mJ ρ4 1304 q = mJ ρ3 1304 q := fun q => e4.J (by unfold avM; omega)
            refine ⟨⟨?_, ?_, ?_⟩, ⟨?_, ?_, ?_⟩, fun j hj => ?_, fun a b ha hb => ?_⟩
            · rw [I_cl (by omega)]; exact m1
            · rw [I_cl (by omega)]; exact m2
            · rw [I_cl (by omega)]; exact m3
            · rw [e4.I (by unfold avM; omega)]; exact m4
            · rw [e4.I (by unfold avM; omega)]; exact m5
            · rw [e4.I (by unfold avM; omega)]; exact m6
            · rw [g1]; exact m7 j hj
            · rw [g1, g1]; exact m8 a b ha hb
          obtain ⟨r, κ', ρ', a1, a2, a3⟩ := ih (T - (i + 2)) (by omega) (i + 2) (w + 1) (psC (psC κw i) (i + 1)) ρ3 ρ4 rfl r4 hP4 hN4 (by omega) (ea3.sI (fun h => h (by omega)) _) (eb3.tr (e4.mo fun a q h => by unfold nfM at h; unfold avM; omega))
          refine ⟨r, κ', ρ', fun ρ1 Q hQ => Lw.stp (fun K hK' => ?_) (a1 ρ1 Q hQ), fun κ1 Q hQ => Lw.stp (fun K hK' => ?_) (a2 κ1 Q hQ), ?_⟩
          · exact stC 1 _ (fun ρ1 Q hQ => c_takes1 hL hC3 hTC3 (aS hco (by decide) rfl) hQ) ρ1 Q K hK'
          · exact stM 1 (fun κ1 Q hQ => m_is1 (s := 44) hM hTM3 hco hQ) κ1 Q K hK'
          · rcases a3 with a3 | ⟨a3, i', w', b1, b2⟩
            · exact Or.inl a3
            · exact Or.inr ⟨a3, i', w', by omega, b2⟩
        · by_cases hcl : sgA B z (pos B z (i + 1)) 41
          · have hi1 : i + 1 < T := hTC3.lt (by rw [hcl.1]; decide)
            obtain ⟨ρ4, r4, s4, e4, t4⟩ := m_adv hM hm3 hTC3 hTM3 hi1
            have hP4 := hP3.ps hi1 s4 e4 t4
            have hN4 : NI sd x k nw (psC (psC κw i) (i + 1)) ρ4 (w + 1) := by
              obtain ⟨⟨m1, m2, m3⟩, ⟨m4, m5, m6⟩, m7, m8⟩ := hN3
              have g1 : ∀ q, mJ ρ4 1304 q = mJ ρ3 1304 q := fun q => e4.J (by unfold avM; omega)
              refine ⟨⟨?_, ?_, ?_⟩, ⟨?_, ?_, ?_⟩, fun j hj => ?_, fun a b ha hb => ?_⟩
              · rw [I_cl (by omega)]; exact m1
              · rw [I_cl (by omega)]; exact m2
              · rw [I_cl (by omega)]; exact m3
              · rw [e4.I (by unfold avM; omega)]; exact m4
              · rw [e4.I (by unfold avM; omega)]; exact m5
              · rw [e4.I (by unfold avM; omega)]; exact m6
              · rw [g1]; exact m7 j hj
              · rw [g1, g1]; exact m8 a b ha hb
            refine ⟨1, psC (psC κw i) (i + 1), ρ4, fun ρ1 Q hQ => Lw.stp (fun K hK' => stC 0 _ (fun ρ1 Q hQ => c_takes0 hL hC3 hTC3 (nS hco (by decide) rfl) hQ) ρ1 Q K hK') (Lw.fin fun K => ?_), fun κ1 Q hQ => Lw.stp (fun K hK' => stM 0 (fun κ1 Q hQ => m_is0 (s := 44) hM hTM3 (by decide) hco hQ) κ1 Q K hK') (Lw.fin fun K => ?_), Or.inr ⟨rfl, i + 2, w + 1, by omega, hP4, hN4, by omega, ea3.sI (fun h => h (by omega)) _, eb3.tr (e4.mo fun a q h => by unfold nfM at h; unfold avM; omega)⟩⟩
            · have hK3 := hC3.ss hs
              have q : X_X0_readNames_178 G Q 7 (mg (psC κw i) ρ1) := by
                simp (disch := omega) only [X_X0_readNames_178, hL.1, hC3.1, mR_c, true_and]
                exact c_expects1 hL hC3 hTC3 (aS hcl (by decide) rfl) ⟨bz1, hQ⟩
              simp (disch := omega) only [X_X0_readNames_20_s, hL.1, hC3.1, mR_c, h713, hT.1, hK3.1, true_and]
              exact ⟨fun _ => q, fun _ => brT trivial q⟩
            · exact brT rfl ⟨hM.1, m_needs1 (s := 41) hM hTM3 hcl r4 ⟨bz1, hQ⟩⟩
          · refine ⟨0, flC (psC κw i) (flt B z (pos B z (i + 1))) (pos B z (i + 1)), flM ρ3 (flt B z (pos B z (i + 1))) (pos B z (i + 1)), fun ρ1 Q hQ => Lw.stp (fun K hK' => stC 0 _ (fun ρ1 Q hQ => c_takes0 hL hC3 hTC3 (nS hco (by decide) rfl) hQ) ρ1 Q K hK') (Lw.fin fun K => ?_), fun κ1 Q hQ => Lw.stp (fun K hK' => stM 0 (fun κ1 Q hQ => m_is0 (s := 44) hM hTM3 (by decide) hco hQ) κ1 Q K hK') (Lw.fin fun K => ?_), Or.inl ⟨rfl, hP3.fail _⟩⟩
            · have hK3 := hC3.ss hs
              have q : X_X0_readNames_178 G Q 7 (mg (psC κw i) ρ1) := by
                simp (disch := omega) only [X_X0_readNames_178, hL.1, hC3.1, mR_c, true_and]
                exact c_expects0 hL hC3 hTC3 (nS hcl (by decide) rfl) ⟨bz0, hQ⟩
              simp (disch := omega) only [X_X0_readNames_20_s, hL.1, hC3.1, mR_c, h713, hT.1, hK3.1, true_and]
              exact ⟨fun _ => q, fun _ => brT trivial q⟩
            · exact brT rfl ⟨hM.1, m_needs0 (s := 41) hM hTM3 (by decide) hcl ⟨bz0, hQ⟩⟩
    · refine ⟨0, flC κ (flt B z (pos B z i)) (pos B z i), flM ρ (flt B z (pos B z i)) (pos B z i), fun ρ1 Q hQ => Lw.fin (fun K => ?_), fun κ1 Q hQ => Lw.fin (fun K => ?_), Or.inl ⟨rfl, hP.fail _⟩⟩
      · simp (disch := omega) only [X_X0_readNames_20_s, mI_c, mR_c, mJ_c, sI_c, sJ_c, sR_c, hL.1, hL.2.1, hL.2.2, hC.1, hC.2.1, hC.2.2.1, hT.1, hK.1, h71, n1500, lT, lF, tT, tF, eF, pF, zT, m1F, vT, cI, true_and, and_true, true_implies, false_implies, not_false_eq_true, not_true_eq_false, forall_eq, implies_true, o0F]
        refine c_isName0 hL hC hTC hn (br0 ?_)
        simp (disch := omega) only [mI_c, mR_c, mJ_c, sI_c, sJ_c, sR_c, hL.1, hL.2.1, hL.2.2, hC.1, hC.2.1, hC.2.2.1, lT, lF, tT, tF, eF, pF, zT, m1F, vT, cI, true_and, and_true, true_implies, false_implies, not_false_eq_true, not_true_eq_false, forall_eq, implies_true]
        exact c_misplaced hL hC hTC ⟨bz0, hQ⟩
      · simp (disch := omega) only [X_X12_readNames_33_s, lT, lF, tT, tF, eF, pF, zT, m1F, vT, cI, true_and, and_true, true_implies, false_implies, not_false_eq_true, not_true_eq_false, forall_eq, implies_true, o0F, hM.1]
        exact ra κ1 _ (m_isName0 hM hTM hn (br0 (m_wrong hM hTM ⟨bz0, hQ⟩)))
end RNAMES
