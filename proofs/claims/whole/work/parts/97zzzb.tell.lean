/-! which rows are told, side by side -/
section TLR
variable {G : Lay} {κ κ' ρ ρ' κ1 ρ1 : Mem} {sc n r0 c0 A S f i r cc : Nat} {mc rt hc K N P D : Nat → Nat}
def Tk (G : Lay) (n c0 : Nat) (ρ : Mem) (r : Nat) : Prop := (∃ cc, cc < n ∧ mI ρ 1307 r = nI cc ∧ isa (par ρ) cc c0 = true) ∧ ∃ ρe, RunM (fun Q σ => X_X12_isTold G Q 1282 (nI r) σ) ρ 1 ρe
theorem EV.row (hE : EV sc n mc rt hc K N r0 c0 A S P D κ ρ) (hr : r < r0) : ∃ cc, cc < n ∧ mI ρ 1307 r = nI cc := by
  obtain ⟨f', c', x', w1, w2, w3, w4, -⟩ := hE.2.2.2.1 r hr
  exact ⟨c', w3, w4⟩
theorem c_tell (hG : Ly G) (hE : EV sc n mc rt hc K N r0 c0 A S P D κ ρ) : ∃ κ' t, (StC κ' ∧ Eqv exC κ κ') ∧ (t ≤ 60 ∧ mI κ' 1 12 = nI t) ∧ Srt (mI κ' 1281) t (fun x => ∃ r, r < r0 ∧ mI ρ 1305 r = nI (rt c0) ∧ Tk G n c0 ρ r ∧ mI ρ 1306 r = x) ∧ RunC0 (fun Q σ => X_X11_tellRows G Q 1 σ) κ κ' := by
  have hL := hG.1
  obtain ⟨⟨hC0, hm0⟩, xS, xR, xY, pr, ⟨a8, -, c0n⟩, -, -, -⟩ := id hE
  have h12 := xS.le
  have hs := xS.1
  have rtl := xS.rt_lt c0 c0n
  have hf : rt c0 < 12 := by omega
  have N60 := (xR.1 (rt c0) hf).2
  have p0 : Eqv exC κ (sI κ 1 12 0) := Eqv.wI (fun h => h (by omega)) _
  obtain ⟨⟨b1, κa⟩, ⟨hb, t, hCa, fra, ht, e12, srt⟩, run⟩ := Lw.run (ι := Mem × (Mem → Prop)) (fun z => X_X11_tellRows_32_s G z.2 1 (nI (rt c0))) (fun (b : Nat × Mem) z => (nI (60 * rt c0 + b.1), mg b.2 z.1)) (N (rt c0)) (fun i b => b.1 = i ∧ ∃ t, StC b.2 ∧ Eqv exC κ b.2 ∧ t ≤ i ∧ mI b.2 1 12 = nI t ∧ Srt (mI b.2 1281) t (fun x => ∃ i', i' < i ∧ mI κ 271 (60 * rt c0 + i') = x ∧ ∃ r, r < r0 ∧ RowR κ ρ (rt c0) i' r ∧ Tk G n c0 ρ r)) (by
    rintro i ⟨b1, κb⟩ hi ⟨hb, t, hC, fr, ht, e12, srt⟩
    have hb : b1 = i := hb
    subst hb
    have hC : StC κb := hC
    have fr : Eqv exC κ κb := fr
    have e12 : mI κb 1 12 = nI t := e12
    have srt : Srt (mI κb 1281) t (fun x => ∃ i', i' < b1 ∧ mI κ 271 (60 * rt c0 + i') = x ∧ ∃ r, r < r0 ∧ RowR κ ρ (rt c0) i' r ∧ Tk G n c0 ρ r) := srt
    obtain ⟨r, hr, hro⟩ := xR.2.2.2.2.1 (rt c0) hf b1 hi
    obtain ⟨cc, hcc, e07⟩ := hE.row hr
    have hE' := hE.fr hC hm0 fr Eqv.rf
    have xS' := hE'.2.1
    have xR' := hE'.2.2.1
    have ek : mI κb 272 (60 * rt c0 + b1) = nI cc := (fr.I (by unfold exC; omega)).trans (hro.2.2.1.trans e07)
    have e71 : mI κb 271 (60 * rt c0 + b1) = mI κ 271 (60 * rt c0 + b1) := fr.I (by unfold exC; omega)
    have a8' : mI κb 8 0 = nI c0 := (fr.I (by unfold exC; omega)).trans a8
    have uniq : ∀ i' r', RowR κ ρ (rt c0) i' r' → r' < r0 → i' = b1 → r' = r := fun i' r' h1 h2 e => by
      subst e
      exact xR.2.2.2.2.2.2.1 r' r h2 hr (h1.1.trans hro.1.symm) (h1.2.1.symm.trans hro.2.1)
    have stp : ∀ (z : Mem × (Mem → Prop)) (K2 : Int32 × Mem → Prop), ((isa (par ρ) cc c0 = true → X_X3_isTrueOf G (fun w14 s13 => ((w14 = 0 → X_X11_tellRows_116 G z.2 K2 1 (nI (rt c0)) (nI (60 * rt c0 + b1)) s13) ∧ (¬ w14 = 0 → gT G (mR s13 1 6) = 6 ∧ gT G (mR s13 (mR s13 1 6) 2) = 100 ∧ vp_in (nI (60 * rt c0 + b1)) (gL G (mR s13 (mR s13 1 6) 2)) ∧ gT G (mR s13 1 11) = 100 ∧ vp_in (mI s13 1 12) (gL G (mR s13 1 11)) ∧ ∀ s20, s20 = sI s13 (mR s13 1 11) (mI s13 1 12).toNatClampNeg (mI s13 (mR s13 (mR s13 1 6) 2) (60 * rt c0 + b1)) → ∀ s21, s21 = sI s20 1 12 ((mI s20 1 12) + (1 : Int32)) → X_X11_tellRows_116 G z.2 K2 1 (nI (rt c0)) (nI (60 * rt c0 + b1)) s21))) 8 13 (nI (60 * rt c0 + b1)) (mg κb z.1)) ∧ (isa (par ρ) cc c0 = false → K2 (nI (60 * rt c0 + (b1 + 1)), mg κb z.1))) → X_X11_tellRows_32_s G z.2 1 (nI (rt c0)) K2 (nI (60 * rt c0 + b1), mg κb z.1) := fun z K2 hh => by
      have i16 : ∀ ρ1, mR (mg κb ρ1) 1 6 = 13 := fun ρ1 => (mR_c (by decide) _).trans hC.1.2.2.2.2.2.1
      have i15 : ∀ ρ1, mR (mg κb ρ1) 1 5 = 8 := fun ρ1 => (mR_c (by decide) _).trans hC.1.2.2.2.2.1
      have i133 : ∀ ρ1, mR (mg κb ρ1) 13 3 = 272 := fun ρ1 => (mR_c (by decide) _).trans (by simp only [hC.1])
      have i130 : ∀ ρ1, mR (mg κb ρ1) 13 0 = sc := fun ρ1 => (mR_c (by decide) _).trans xS'.2.1
      have g6 : gT G 13 = 6 := hL.1.2.2.2.2.2.2.2.2.2.2.2.2.2.2.2.2.2.2.2.1
      have g4 : gT G 8 = 4 := hL.1.2.2.2.2.2.2.2.2.2.2.2.1
      have g272 : gT G 272 = 100 ∧ vp_in (nI (60 * rt c0 + b1)) (gL G 272) := by
        simp (disch := omega) only [hL.1, lT, lF, tT, tF, eF, pF, zT, m1F, vT, cI, true_and, and_true, true_implies, false_implies, not_false_eq_true, not_true_eq_false, forall_eq, implies_true]
      refine ⟨hL.1.1, ?_⟩
      rw [i16]
      refine ⟨g6, c_endOf hL hC xR' hf (brF (fun e => by have := (lI (by omega) (by omega)).mp e; omega) ?_)⟩
      rw [i16, i133, i15, i130, mI_c (by decide), mI_c (by decide), cI (by omega), ek, a8']
      refine ⟨g6, g272.1, g272.2, g4, (hG.s hs).1.1, c_isOf' hG hC xS' hcc (by omega) (fun e => br1 (by rw [i15, i16]; exact ⟨g4, hh.1 e⟩)) (fun e => br0 ?_)⟩
      show K2 (nI (60 * rt c0 + b1) + 1, mg κb z.1)
      rw [nI_1, show 60 * rt c0 + b1 + 1 = 60 * rt c0 + (b1 + 1) by omega]
      exact hh.2 e
    have old : ∀ x, (∃ i', i' < b1 ∧ mI κ 271 (60 * rt c0 + i') = x ∧ ∃ r, r < r0 ∧ RowR κ ρ (rt c0) i' r ∧ Tk G n c0 ρ r) → ∃ i', i' < b1 + 1 ∧ mI κ 271 (60 * rt c0 + i') = x ∧ ∃ r, r < r0 ∧ RowR κ ρ (rt c0) i' r ∧ Tk G n c0 ρ r := fun x ⟨i', h1, h2⟩ => ⟨i', by omega, h2⟩
    -- not told: nothing
    have no : ¬ Tk G n c0 ρ r → ∀ x, (∃ i', i' < b1 ∧ mI κ 271 (60 * rt c0 + i') = x ∧ ∃ r, r < r0 ∧ RowR κ ρ (rt c0) i' r ∧ Tk G n c0 ρ r) ↔ ∃ i', i' < b1 + 1 ∧ mI κ 271 (60 * rt c0 + i') = x ∧ ∃ r, r < r0 ∧ RowR κ ρ (rt c0) i' r ∧ Tk G n c0 ρ r := fun hn x => ⟨old x, fun ⟨i', h1, h2, r', h3, h4, h5⟩ => by
      by_cases e : i' = b1
      · rw [uniq i' r' h4 h3 e] at h5; exact absurd h5 hn
      · exact ⟨i', by omega, h2, r', h3, h4, h5⟩⟩
    by_cases hisa : isa (par ρ) cc c0 = true
    · obtain ⟨b, hb2, jC, jM⟩ := j_truthOf hG hE hf hi hr hro hcc e07 hisa
      obtain ⟨κe, hCe, fre, rC⟩ := jC κb hC fr
      have fre' : Eqv exC κ κe := fr.tr (fre.mo fun a k q => by unfold exC at q; omega)
      obtain ⟨ρe0, -, -, rM0⟩ := jM ρ hm0 Eqv.rf
      rcases hb2 with rfl | rfl
      · have hn : ¬ Tk G n c0 ρ r := fun ⟨_, ρx, hx⟩ => by
          obtain ⟨w, s, w1, w2⟩ := d_isTold (rM0 κ (fun w _ => w = 0) rfl) (hx κ (fun w _ => w = 1) rfl)
          rw [w1] at w2; exact absurd w2 (by decide)
        refine ⟨(b1 + 1, κe), ⟨rfl, t, hCe, fre', by omega, (fre.I (by decide)).trans e12, srt.cg (fun i hi => fre.I (by decide)) (no hn)⟩, fun z K2 hK => stp z K2 ⟨fun _ => rC z.1 _ (br0 ?_), fun e => by rw [hisa] at e; cases e⟩⟩
        show K2 (nI (60 * rt c0 + b1) + 1, mg κe z.1)
        rw [nI_1, show 60 * rt c0 + b1 + 1 = 60 * rt c0 + (b1 + 1) by omega]
        exact hK
      · have hy : Tk G n c0 ρ r := ⟨⟨cc, hcc, e07, hisa⟩, ρe0, rM0⟩
        have e12e : mI κe 1 12 = nI t := (fre.I (by decide)).trans e12
        have e71e : mI κe 271 (60 * rt c0 + b1) = mI κ 271 (60 * rt c0 + b1) := (fre.I (by decide)).trans e71
        refine ⟨(b1 + 1, sI (sI κe 1281 t (mI κ 271 (60 * rt c0 + b1))) 1 12 (nI (t + 1))), ⟨rfl, t + 1, (hCe.wI _ _ _).wI _ _ _, (fre'.sI (fun h => h (by omega)) _).sI (fun h => h (by omega)) _, by omega, I_is _ _ _ _, srt.snoc (x := mI κ 271 (60 * rt c0 + b1)) (fun i hi => ?_) ?_ (fun y hy => ?_) (fun y => ?_)⟩, fun z K2 hK => stp z K2 ⟨fun _ => rC z.1 _ (br1 ?_), fun e => by rw [hisa] at e; cases e⟩⟩
        · show mI (sI (sI κe _ _ _) _ _ _) 1281 i = _
          rw [I_cl (by decide), I_sl (by omega)]; exact fre.I (by decide)
        · show mI (sI (sI κe _ _ _) _ _ _) 1281 t = _
          rw [I_cl (by decide), I_is]
        · obtain ⟨i', h1, h2, -⟩ := hy
          rw [← h2]; exact xR.2.2.2.1 (rt c0) hf i' b1 h1 hi
        · refine ⟨fun ⟨i', h1, h2, h3⟩ => ?_, fun h => ?_⟩
          · by_cases e : i' = b1
            · subst e; exact Or.inr h2.symm
            · exact Or.inl ⟨i', by omega, h2, h3⟩
          · rcases h with h | h
            · exact old y h
            · exact ⟨b1, by omega, h.symm, r, hr, hro, hy⟩
        · have hC := hCe
          simp (disch := omega) only [X_X11_tellRows_116, mI_c, mR_c, mJ_c, sI_c, sJ_c, sR_c, hL.1, hL.2.1, hL.2.2, hC.1, hC.2.1, hC.2.2.1, I_is, I_cl, I_sl, J_is, J_cl, J_sl, R_is, R_cl, R_sl, mI_sJ, mI_sR, mJ_sI, mJ_sR, mR_sI, mR_sJ, e12e, e71e, nI_1, lT, lF, tT, tF, eF, pF, zT, m1F, vT, cI, true_and, and_true, true_implies, false_implies, not_false_eq_true, not_true_eq_false, forall_eq, implies_true]
          rw [show 60 * rt c0 + b1 + 1 = 60 * rt c0 + (b1 + 1) by omega]
          exact hK
    · have hf2 : isa (par ρ) cc c0 = false := by cases e : isa (par ρ) cc c0; rfl; exact absurd e hisa
      have hn : ¬ Tk G n c0 ρ r := fun ⟨⟨c', h1, h2, h3⟩, _⟩ => by
        have := (eI (by omega) (by omega)).mp (h2.symm.trans e07)
        subst this
        exact hisa h3
      exact ⟨(b1 + 1, κb), ⟨rfl, t, hC, fr, by omega, e12, srt.cg (fun i hi => rfl) (no hn)⟩, fun z K2 hK => stp z K2 ⟨fun e => absurd e hisa, fun _ => hK⟩⟩) 0 (Nat.zero_le _) (0, sI κ 1 12 0) ⟨rfl, 0, hC0.wI _ _ _, p0, Nat.le_refl _, I_is _ _ _ _, (Srt.nil _).cg (fun i hi => rfl) (fun x => ⟨fun h => h.elim, fun ⟨i', h, _⟩ => by omega⟩)⟩
  have hb : b1 = N (rt c0) := hb
  subst hb
  have hCa : StC κa := hCa
  have fra : Eqv exC κ κa := fra
  have xS' := (hE.fr hCa hm0 fra Eqv.rf).2.1
  have xR' := (hE.fr hCa hm0 fra Eqv.rf).2.2.1
  refine ⟨κa, t, ⟨hCa, fra⟩, ⟨by omega, e12⟩, srt.cg (fun i hi => rfl) (fun x => ⟨fun ⟨i', h1, h2, r, h3, h4, h5⟩ => ⟨r, h3, h4.1, h5, h4.2.1.symm.trans h2⟩, fun ⟨r, h1, h2, h3, h4⟩ => ?_⟩), fun ρ1 Q hQ => ?_⟩
  · obtain ⟨f', hf', i', hi', hro⟩ := xR.2.2.2.2.2.1 r h1
    have ef : f' = rt c0 := (eI (by omega) (by omega)).mp (hro.1.symm.trans h2)
    subst ef
    exact ⟨i', hi', hro.2.1.trans h4, r, h1, hro, h3⟩
  · have i16 : ∀ {κ : Mem}, StC κ → mR (mg κ ρ1) 1 6 = 13 := fun {κ} hC => (mR_c (by decide) _).trans hC.1.2.2.2.2.2.1
    have g6 : gT G 13 = 6 := hL.1.2.2.2.2.2.2.2.2.2.2.2.2.2.2.2.2.2.2.2.1
    have g4 : gT G 8 = 4 := hL.1.2.2.2.2.2.2.2.2.2.2.2.1
    show X_X11_tellRows_0 G Q 1 (mg κ ρ1)
    unfold X_X11_tellRows_0
    rw [i16 hC0, (mR_c (by decide) _).trans hC0.1.2.2.2.2.1, (mR_c (by decide) _).trans xS.2.1, mI_c (by decide), a8]
    refine ⟨hL.1.1, g6, g4, (hG.s hs).1.1, c_rootOf1 hG hC0 xS c0n ?_⟩
    intro s7 hs7
    subst hs7
    rw [sI_c (by decide), i16 (hC0.wI _ _ _)]
    refine ⟨g6, c_firstOf hf (run (ρ1, Q) fun K2 => ?_)⟩
    show X_X11_tellRows_32_s G Q 1 (nI (rt c0)) K2 (nI (60 * rt c0 + N (rt c0)), mg κa ρ1)
    refine ⟨hL.1.1, ?_⟩
    rw [i16 hCa]
    exact ⟨g6, c_endOf hL hCa xR' hf (brT ((lI (by omega) (by omega)).mpr (Nat.le_refl _)) hQ)⟩
end TLR
