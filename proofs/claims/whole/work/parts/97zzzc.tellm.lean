section TLM
variable {G : Lay} {κ κ' ρ ρ' κ1 ρ1 : Mem} {sc n r0 c0 A S f i r cc : Nat} {mc rt hc K N P D : Nat → Nat}
theorem m_tell (hG : Ly G) (hE : EV sc n mc rt hc K N r0 c0 A S P D κ ρ) : ∃ ρ' t, (StM ρ' ∧ Eqv exM ρ ρ') ∧ (t ≤ 60 ∧ mI ρ' 1282 60 = nI t) ∧ Srt (mI ρ' 1327) t (fun x => ∃ r, r < r0 ∧ mI ρ 1305 r = nI (rt c0) ∧ Tk G n c0 ρ r ∧ mI ρ 1306 r = x) ∧ ∀ κ1 (Q : Int32 → Mem → Prop), X_X12_ask_142 G Q 1282 0 (mg κ1 (sI ρ' 1282 90 (nI t))) → X_X12_ask_59 G Q 1282 0 (mg κ1 (sI ρ 1282 60 0)) := by
  have hM := hG.2.2.2
  obtain ⟨⟨hC0, hm0⟩, xS, xR, xY, pr, ⟨-, a89, c0n⟩, -, -, -⟩ := id hE
  have h12 := xS.le
  have r720 := xR.le
  have rtl := xS.rt_lt c0 c0n
  have hf : rt c0 < 12 := by omega
  have N60 := (xR.1 (rt c0) hf).2
  have cntN : cnt (fun r => mI ρ 1305 r) (nI (rt c0)) r0 = N (rt c0) := xR.2.2.2.2.2.2.2 (rt c0) hf
  have e26 : mI ρ 1282 26 = nI r0 := xR.2.1
  have p0 : Eqv exM ρ (sI ρ 1282 60 0) := Eqv.wI (fun h => h (by omega)) _
  obtain ⟨⟨b1, ρa⟩, ⟨hb, t, hma, fra, ht, e60, srt⟩, run⟩ := Lw.run (ι := Mem × (Int32 → Mem → Prop)) (fun z => X_X12_ask_59_s G z.2 1282) (fun (b : Nat × Mem) z => (nI b.1, mg z.1 b.2)) r0 (fun i b => b.1 = i ∧ ∃ t, StM b.2 ∧ Eqv exM ρ b.2 ∧ t ≤ cnt (fun r => mI ρ 1305 r) (nI (rt c0)) i ∧ mI b.2 1282 60 = nI t ∧ Srt (mI b.2 1327) t (fun x => ∃ r, r < i ∧ mI ρ 1305 r = nI (rt c0) ∧ Tk G n c0 ρ r ∧ mI ρ 1306 r = x)) (by
    rintro i ⟨b1, ρb⟩ hi ⟨hb, t, hm, fr, ht, e60, srt⟩
    have hb : b1 = i := hb
    subst hb
    have hm : StM ρb := hm
    have fr : Eqv exM ρ ρb := fr
    have e60 : mI ρb 1282 60 = nI t := e60
    have srt : Srt (mI ρb 1327) t (fun x => ∃ r, r < b1 ∧ mI ρ 1305 r = nI (rt c0) ∧ Tk G n c0 ρ r ∧ mI ρ 1306 r = x) := srt
    obtain ⟨cc, hcc, e07⟩ := hE.row hi
    have xS' := (hE.fr hC0 hm Eqv.rf fr).2.1
    have e26' : mI ρb 1282 26 = nI r0 := (fr.I (by unfold exM; omega)).trans e26
    have e89' : mI ρb 1282 89 = nI c0 := (fr.I (by unfold exM; omega)).trans a89
    have e05' : mI ρb 1305 b1 = mI ρ 1305 b1 := fr.I (by unfold exM; omega)
    have e06' : mI ρb 1306 b1 = mI ρ 1306 b1 := fr.I (by unfold exM; omega)
    have e07' : mI ρb 1307 b1 = nI cc := (fr.I (by unfold exM; omega)).trans e07
    have cntS : cnt (fun r => mI ρ 1305 r) (nI (rt c0)) (b1 + 1) = cnt (fun r => mI ρ 1305 r) (nI (rt c0)) b1 + if mI ρ 1305 b1 = nI (rt c0) then 1 else 0 := rfl
    have cntM := cnt_mono (fun r => mI ρ 1305 r) (nI (rt c0)) (i := b1 + 1) (j := r0) (by omega)
    have old : ∀ x, (∃ r, r < b1 ∧ mI ρ 1305 r = nI (rt c0) ∧ Tk G n c0 ρ r ∧ mI ρ 1306 r = x) → ∃ r, r < b1 + 1 ∧ mI ρ 1305 r = nI (rt c0) ∧ Tk G n c0 ρ r ∧ mI ρ 1306 r = x := fun x ⟨r, h1, h2⟩ => ⟨r, by omega, h2⟩
    have no : ¬ (mI ρ 1305 b1 = nI (rt c0) ∧ Tk G n c0 ρ b1) → ∀ x, (∃ r, r < b1 ∧ mI ρ 1305 r = nI (rt c0) ∧ Tk G n c0 ρ r ∧ mI ρ 1306 r = x) ↔ ∃ r, r < b1 + 1 ∧ mI ρ 1305 r = nI (rt c0) ∧ Tk G n c0 ρ r ∧ mI ρ 1306 r = x := fun hn x => ⟨old x, fun ⟨r, h1, h2, h3, h4⟩ => by
      by_cases e : r = b1
      · subst e; exact absurd ⟨h2, h3⟩ hn
      · exact ⟨r, by omega, h2, h3, h4⟩⟩
    have stp : ∀ (z : Mem × (Int32 → Mem → Prop)) (K2 : Int32 × Mem → Prop), ((mI ρ 1305 b1 = nI (rt c0) → ((isa (par ρb) cc c0 = true → X_X12_isTold G (fun w12 s11 => ((w12 = 0 → X_X12_ask_125 G z.2 K2 1282 (nI b1) s11) ∧ (¬ w12 = 0 → gT G (mR s11 1282 28) = 100 ∧ vp_in (nI b1) (gL G (mR s11 1282 28)) ∧ X_X12_addKey G (fun s15 => X_X12_ask_125 G z.2 K2 1282 (nI b1) s15) 1282 (mI s11 (mR s11 1282 28) b1) s11))) 1282 (nI b1) (mg z.1 ρb)) ∧ (isa (par ρb) cc c0 = false → K2 (nI (b1 + 1), mg z.1 ρb)))) ∧ (¬ mI ρ 1305 b1 = nI (rt c0) → K2 (nI (b1 + 1), mg z.1 ρb))) → X_X12_ask_59_s G z.2 1282 K2 (nI b1, mg z.1 ρb) := fun z K2 hh => by
      have n0' : (0 : Int32) = nI 0 := rfl
      have j27 : ∀ κ1, mR (mg κ1 ρb) 1282 27 = 1305 := fun κ1 => (mR_m (by decide) _).trans (by simp only [hm.1, hm.2])
      have j29 : ∀ κ1, mR (mg κ1 ρb) 1282 29 = 1307 := fun κ1 => (mR_m (by decide) _).trans (by simp only [hm.1, hm.2])
      have g05 : gT G 1305 = 100 ∧ vp_in (nI b1) (gL G 1305) := by simp (disch := omega) only [hM.2, lT, lF, tT, tF, eF, pF, zT, m1F, vT, cI, true_and, and_true, true_implies, false_implies, not_false_eq_true, not_true_eq_false, forall_eq, implies_true]
      have g07 : gT G 1307 = 100 ∧ vp_in (nI b1) (gL G 1307) := by simp (disch := omega) only [hM.2, lT, lF, tT, tF, eF, pF, zT, m1F, vT, cI, true_and, and_true, true_implies, false_implies, not_false_eq_true, not_true_eq_false, forall_eq, implies_true]
      have k26 : mI (mg z.1 ρb) 1282 26 = nI r0 := (mI_m (by decide) _).trans e26'
      have k89 : mI (mg z.1 ρb) 1282 89 = nI c0 := (mI_m (by decide) _).trans e89'
      refine ⟨hM.1, brF (by rw [k26]; exact fun e => by have := (lI (by omega) (by omega)).mp e; omega) ?_⟩
      rw [j27, k89]
      refine ⟨g05.1, g05.2, m_rootOf hM hm xS' c0n ?_⟩
      rw [mI_m (by decide), cI (by omega), e05']
      refine ⟨fun e => ?_, fun e => ?_⟩
      · rw [j29, mI_m (by decide), k89, e07']
        refine ⟨g07.1, g07.2, m_isA0 hM hm xS'.par h12 hcc (by omega) (fun q => br1 ((hh.1 e).1 q)) (fun q => br0 ?_)⟩
        show K2 (nI b1 + 1, mg z.1 ρb)
        rw [nI_1]; exact (hh.1 e).2 q
      · show K2 (nI b1 + 1, mg z.1 ρb)
        rw [nI_1]; exact hh.2 e
    have par' : ∀ {d : Nat}, isa (par ρb) cc d = isa (par ρ) cc d := fun {d} => isa_cg xS.par h12 (fun c _ => fr.I (by unfold exM; omega)) cc hcc
    by_cases hfam : mI ρ 1305 b1 = nI (rt c0)
    · rw [if_pos hfam] at cntS
      by_cases hisa : isa (par ρ) cc c0 = true
      · obtain ⟨f', hf', i', hi', hro⟩ := xR.2.2.2.2.2.1 b1 hi
        obtain ⟨b, hb2, jC, jM⟩ := j_truthOf hG hE hf' hi' hi hro hcc e07 hisa
        obtain ⟨ρe, hme, fre, rM⟩ := jM ρb hm fr
        have fre' : Eqv exM ρ ρe := fr.tr (fre.mo fun a k q => by unfold exM at q; omega)
        obtain ⟨ρe0, -, -, rM0⟩ := jM ρ hm0 Eqv.rf
        have e60e : mI ρe 1282 60 = nI t := (fre.I (by decide)).trans e60
        have e27e : mI ρe 1327 = mI ρb 1327 := funext fun k => fre.I (by decide)
        have e06e : mI ρe 1306 b1 = mI ρ 1306 b1 := (fre.I (by decide)).trans e06'
        rcases hb2 with rfl | rfl
        · have hn : ¬ (mI ρ 1305 b1 = nI (rt c0) ∧ Tk G n c0 ρ b1) := fun ⟨_, _, ρx, hx⟩ => by
            obtain ⟨w, s, w1, w2⟩ := d_isTold (rM0 κ (fun w _ => w = 0) rfl) (hx κ (fun w _ => w = 1) rfl)
            rw [w1] at w2; exact absurd w2 (by decide)
          refine ⟨(b1 + 1, ρe), ⟨rfl, t, hme, fre', by omega, e60e, srt.cg (fun i hi => by show mI ρe 1327 i = _; rw [e27e]) (no hn)⟩, fun z K2 hK => stp z K2 ⟨fun _ => ⟨fun _ => rM z.1 _ (br0 ?_), fun e => by rw [par', hisa] at e; cases e⟩, fun e => absurd hfam e⟩⟩
          show K2 (nI b1 + 1, mg z.1 ρe)
          rw [nI_1]; exact hK
        · have hy : Tk G n c0 ρ b1 := ⟨⟨cc, hcc, e07, hisa⟩, ρe0, rM0⟩
          obtain ⟨p, q1, q2, q3⟩ := insPos (mI ρe 1327) (mI ρ 1306 b1) t
          have nx : ¬ ∃ r, r < b1 ∧ mI ρ 1305 r = nI (rt c0) ∧ Tk G n c0 ρ r ∧ mI ρ 1306 r = mI ρ 1306 b1 := fun ⟨r, h1, h2, _, h4⟩ => by
            have := xR.2.2.2.2.2.2.1 r b1 (by omega) hi (h2.trans hfam.symm) h4
            omega
          refine ⟨(b1 + 1, sI (sA ρe 1327 (insAt (mI ρe 1327) t p (mI ρ 1306 b1))) 1282 60 (nI (t + 1))), ⟨rfl, t + 1, (hme.wA _ _).wI _ _ _, (fre'.sA (fun k h => h (by omega))).sI (fun h => h (by omega)) _, by omega, I_is _ _ _ _, (srt.cg (fun i hi => by show mI ρe 1327 i = _; rw [e27e]) (fun x => Iff.rfl)).ins (x := mI ρ 1306 b1) q1 q2 q3 nx (fun i hi => ?_) (fun y => ?_)⟩, fun z K2 hK => stp z K2 ⟨fun _ => ⟨fun _ => rM z.1 _ (br1 ?_), fun e => by rw [par', hisa] at e; cases e⟩, fun e => absurd hfam e⟩⟩
          · show mI (sI (sA ρe _ _) _ _ _) 1327 i = _
            rw [I_cl (by decide), sA_is]
          · refine ⟨fun ⟨r, h1, h2, h3, h4⟩ => ?_, fun h => ?_⟩
            · by_cases e : r = b1
              · subst e; exact Or.inr h4.symm
              · exact Or.inl ⟨r, by omega, h2, h3, h4⟩
            · rcases h with h | h
              · exact old y h
              · exact ⟨b1, by omega, hfam, hy, h.symm⟩
          · have g06 : gT G 1306 = 100 ∧ vp_in (nI b1) (gL G 1306) := by simp (disch := omega) only [hM.2, lT, lF, tT, tF, eF, pF, zT, m1F, vT, cI, true_and, and_true, true_implies, false_implies, not_false_eq_true, not_true_eq_false, forall_eq, implies_true]
            rw [(mR_m (by decide) _).trans (show mR ρe 1282 28 = 1306 by simp only [hme.1, hme.2]), mI_m (by decide), e06e]
            refine ⟨g06.1, g06.2, m_addKey hM hme (by omega) e60e q1 q2 q3 ?_⟩
            show K2 (nI b1 + 1, mg z.1 _)
            rw [nI_1]; exact hK
      · have hf2 : isa (par ρb) cc c0 = false := by rw [par']; cases e : isa (par ρ) cc c0; rfl; exact absurd e hisa
        have hn : ¬ (mI ρ 1305 b1 = nI (rt c0) ∧ Tk G n c0 ρ b1) := fun ⟨_, ⟨c', h1, h2, h3⟩, _⟩ => by
          have := (eI (by omega) (by omega)).mp (h2.symm.trans e07)
          subst this
          exact hisa h3
        exact ⟨(b1 + 1, ρb), ⟨rfl, t, hm, fr, by omega, e60, srt.cg (fun i hi => rfl) (no hn)⟩, fun z K2 hK => stp z K2 ⟨fun _ => ⟨fun e => (by rw [hf2] at e; cases e), fun _ => hK⟩, fun e => absurd hfam e⟩⟩
    · rw [if_neg hfam] at cntS
      exact ⟨(b1 + 1, ρb), ⟨rfl, t, hm, fr, by omega, e60, srt.cg (fun i hi => rfl) (no fun h => hfam h.1)⟩, fun z K2 hK => stp z K2 ⟨fun e => absurd e hfam, fun _ => hK⟩⟩) 0 (Nat.zero_le _) (0, sI ρ 1282 60 0) ⟨rfl, 0, hm0.wI _ _ _, p0, Nat.zero_le _, I_is _ _ _ _, (Srt.nil _).cg (fun i hi => rfl) (fun x => ⟨fun h => h.elim, fun ⟨i', h, _⟩ => by omega⟩)⟩
  have hb : b1 = r0 := hb
  subst hb
  have hma : StM ρa := hma
  have fra : Eqv exM ρ ρa := fra
  have e60 : mI ρa 1282 60 = nI t := e60
  have e26' : mI ρa 1282 26 = nI b1 := (fra.I (by unfold exM; omega)).trans e26
  refine ⟨ρa, t, ⟨hma, fra⟩, ⟨by omega, e60⟩, srt, fun κ1 Q hQ => run (κ1, Q) fun K2 => ?_⟩
  show X_X12_ask_59_s G Q 1282 K2 (nI b1, mg κ1 ρa)
  refine ⟨hM.1, brT (by rw [mI_m (by decide), e26']; exact (lI (by omega) (by omega)).mpr (Nat.le_refl _)) ?_⟩
  intro s2 hs2
  subst hs2
  rw [mI_m (by decide), e60, sI_m (by decide)]
  exact hQ
theorem m_tell2 (hM : LyM G) (hm : StM ρ) {t : Nat} (ht : t ≤ 60) (e90 : mI ρ 1282 90 = nI t) : ∃ ρ', StM ρ' ∧ Eqv (fun a _ => a ≠ 1345) ρ ρ' ∧ (∀ i, i < t → mI ρ' 1345 i = mI ρ 1327 i) ∧ ∀ κ1 (Q : Int32 → Mem → Prop), Q (nI t) (mg κ1 ρ') → X_X12_ask_142 G Q 1282 0 (mg κ1 ρ) := by
  obtain ⟨⟨b1, ρa⟩, ⟨hb, hma, fra, fa⟩, run⟩ := Lw.run (ι := Mem × (Int32 → Mem → Prop)) (fun z => X_X12_ask_142_s G z.2 1282) (fun (b : Nat × Mem) z => (nI b.1, mg z.1 b.2)) t (fun i b => b.1 = i ∧ StM b.2 ∧ Eqv (fun a _ => a ≠ 1345) ρ b.2 ∧ ∀ j, j < i → mI b.2 1345 j = mI ρ 1327 j) (by
    rintro i ⟨b1, ρb⟩ hi ⟨hb, hm, fr, ff⟩
    have hb : b1 = i := hb
    subst hb
    have hm : StM ρb := hm
    have fr : Eqv _ ρ ρb := fr
    have ff : ∀ j, j < b1 → mI ρb 1345 j = mI ρ 1327 j := ff
    have e90' : mI ρb 1282 90 = nI t := (fr.I (by decide)).trans e90
    have e27' : mI ρb 1327 b1 = mI ρ 1327 b1 := fr.I (by decide)
    refine ⟨(b1 + 1, sI ρb 1345 b1 (mI ρ 1327 b1)), ⟨rfl, hm.wI _ _ _, fr.sI (fun h => h rfl) _, fun j hj => ?_⟩, fun z K hK => ?_⟩
    · show mI (sI ρb _ _ _) 1345 j = _
      by_cases e : j = b1
      · subst e; simp (disch := omega) only [I_is, I_cl, I_sl, J_is, J_cl, J_sl, R_is, R_cl, R_sl, mI_sJ, mI_sR, mJ_sI, mJ_sR, mR_sI, mR_sJ]
      · simp (disch := omega) only [I_is, I_cl, I_sl, J_is, J_cl, J_sl, R_is, R_cl, R_sl, mI_sJ, mI_sR, mJ_sI, mJ_sR, mR_sI, mR_sJ]; exact ff j (by omega)
    · show X_X12_ask_142_s G z.2 1282 K (nI b1, mg z.1 ρb)
      simp (disch := omega) only [X_X12_ask_142_s, mI_m, mR_m, mJ_m, sI_m, sJ_m, hM.1, hM.2, hm.1, hm.2, e90', e27', nI_1, lT, lF, tT, tF, eF, pF, zT, m1F, vT, cI, true_and, and_true, true_implies, false_implies, not_false_eq_true, not_true_eq_false, forall_eq, implies_true, I_is, I_cl, I_sl, J_is, J_cl, J_sl, R_is, R_cl, R_sl, mI_sJ, mI_sR, mJ_sI, mJ_sR, mR_sI, mR_sJ]
      exact hK) 0 (Nat.zero_le _) (0, ρ) ⟨rfl, hm, Eqv.rf, fun j h => by omega⟩
  have hb : b1 = t := hb
  subst hb
  have hma : StM ρa := hma
  have fra : Eqv _ ρ ρa := fra
  have e90' : mI ρa 1282 90 = nI b1 := (fra.I (by decide)).trans e90
  refine ⟨ρa, hma, fra, fa, fun κ1 Q hQ => run (κ1, Q) (fun K2 => ?_)⟩
  show X_X12_ask_142_s G Q 1282 K2 (nI b1, mg κ1 ρa)
  have hm := hma
  simp (disch := omega) only [X_X12_ask_142_s, mI_m, mR_m, mJ_m, sI_m, sJ_m, hM.1, hM.2, hm.1, hm.2, e90', lT, lF, tT, tF, eF, pF, zT, m1F, vT, cI, true_and, and_true, true_implies, false_implies, not_false_eq_true, not_true_eq_false, forall_eq, implies_true]
  exact hQ
end TLM
