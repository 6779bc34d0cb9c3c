section ADV
variable {G : Lay} {κ ρ ρ' κ1 ρ1 : Mem} {B : Nat → Nat} {z p : Nat}
/-- what advance leaves as it is -/
def avM (a k : Nat) : Prop := ¬ (a = 1282 ∧ 49 ≤ k ∧ k ≤ 53)
theorem BtM.fr (h : BtM ρ B z) (e : Eqv avM ρ ρ') : BtM ρ' B z := by
  refine ⟨(e.I (fun h => by omega)).trans h.1, h.2.1, fun k hk => ?_⟩
  rw [e.I (fun h => by omega)]; exact h.2.2 k hk
theorem min_lt {n c : Nat} (h : n < c) : min n c = n := Nat.min_eq_left (by omega)
theorem eTk_w (hB : BtM ρ B z) (hp : p < z) (h : ltt (B p) = true) : (∀ j, p ≤ j → j < eTk B z p → wrd (B j) = true) ∧ (eTk B z p < z → ¬ wrd (B (eTk B z p)) = true) := by
  unfold eTk
  rw [if_pos h]
  obtain ⟨a1, a2, a3, a4⟩ := run_ok (p := wrd) (B := B) (z := z) (i := p + 1) (by omega)
  refine ⟨fun j h1 h2 => ?_, a4⟩
  by_cases e : j = p
  · rw [e]; unfold wrd; rw [h]; rfl
  · exact a3 j (by omega) h2
theorem eTk_d (hp : p < z) (hn : ¬ ltt (B p) = true) (h : dgt (B p) = true) : (∀ j, p ≤ j → j < eTk B z p → dgt (B j) = true) ∧ (eTk B z p < z → ¬ dgt (B (eTk B z p)) = true) := by
  unfold eTk
  rw [if_neg hn, if_pos h]
  obtain ⟨a1, a2, a3, a4⟩ := run_ok (p := dgt) (B := B) (z := z) (i := p + 1) (by omega)
  refine ⟨fun j h1 h2 => ?_, a4⟩
  by_cases e : j = p
  · rw [e]; exact h
  · exact a3 j (by omega) h2
theorem m_adv56 (hM : LyM G) (hm : StM ρ) (hB : BtM ρ B z) (hp : p < z) (e49 : mI ρ 1282 49 = nI p) (e50 : mI ρ 1282 50 = nI p) : ∃ ρ', (∀ κ1 (Q : Mem → Prop), Q (mg κ1 ρ') → X_X12_advance_56 G Q 1282 (nI (B p)) (nI (ltr (B p))) (mg κ1 ρ)) ∧ StM ρ' ∧ Eqv avM ρ ρ' ∧ TokM ρ' B z p := by
  have hz := hB.2.1
  obtain ⟨eb, hb⟩ := hB.2.2 p hp
  have l62 := ltr_62 (B p) hb
  obtain ⟨t1, t2⟩ := eTk_ok (B := B) hp
  have n53 : (53 : Int32) = nI 53 := rfl
  have n52 : (52 : Int32) = nI 52 := rfl
  have n8 : (8 : Int32) = nI 8 := rfl
  have n6 : (6 : Int32) = nI 6 := rfl
  have n0 : (0 : Int32) = nI 0 := rfl
  have lt0 : ∀ a, 0 < a → a < 2147483648 → (nI a ≤ 0) = False := fun a h1 h2 => eq_false (fun h => by have := (lI (b := 0) h2 (by decide)).mp h; omega)
  by_cases hl : ltt (B p) = true
  · -- a word
    obtain ⟨w1, w2⟩ := eTk_w hB hp hl
    have hl2 := (ltt_ltr (B p) hb).mp hl
    obtain ⟨⟨n, ρn⟩, ⟨hn, hmn, frn, g50, g52⟩, run⟩ := Lw.run (ι := Mem × (Mem → Prop)) (fun y => X_X12_advance_86_s G y.2 1282) (fun (b : Nat × Mem) y => (nI b.1, mg y.1 b.2)) (eTk B z p - p) (fun i b => b.1 = i ∧ StM b.2 ∧ Eqv (fun a k => ¬ (a = 1282 ∧ (k = 50 ∨ k = 52))) ρ b.2 ∧ mI b.2 1282 50 = nI (p + i) ∧ mJ b.2 1282 52 = lN (c6 B p (min i 8))) (by
      rintro i ⟨b1, ρb⟩ hi ⟨hb1, hm, fr, g50, g52⟩
      have hb1 : b1 = i := hb1
      subst hb1
      have hm : StM ρb := hm
      have fr : Eqv _ ρ ρb := fr
      have g50 : mI ρb 1282 50 = _ := g50
      have g52 : mJ ρb 1282 52 = _ := g52
      have hBb : BtM ρb B z := hB.fr (fr.mo fun a k h => fun h2 => h (by omega))
      have hk : p + b1 < z := by omega
      have hby := (hB.2.2 (p + b1) hk).2
      have hlt := (wrd_ltr (B (p + b1)) hby).mp (w1 (p + b1) (by omega) (by omega))
      have hl62 := ltr_62 (B (p + b1)) hby
      have head : ∀ (y : Mem × (Mem → Prop)) (K : Int32 × Mem → Prop), ((nI 8 ≤ nI b1 → X_X12_advance_142 G y.2 K 1282 (nI b1) (mg y.1 ρb)) ∧ (¬ nI 8 ≤ nI b1 → ∀ s12, s12 = sJ (mg y.1 ρb) 1282 52 (lN (c6 B p (min b1 8)) * (64 : Int64) + (nI (ltr (B (p + b1)))).toInt64) → X_X12_advance_142 G y.2 K 1282 (nI b1) s12)) → X_X12_advance_86_s G y.2 1282 K (nI b1, mg y.1 ρb) := fun y K h => by
        simp (disch := omega) only [X_X12_advance_86_s, hM.1, true_and, mI_m, g50]
        refine m_see1 hM hm hBb hk (brF (pI (by omega)) ?_)
        rw [mI_m (by decide), g50]
        refine m_see1 hM hm hBb hk (m_letterOf hby ?_)
        rw [lt0 _ hlt (by omega)]
        refine brF (fun h => h) ?_
        rw [n8]
        refine ⟨fun h8 => h.1 h8, fun h8 => ?_⟩
        rw [mI_m (by decide), g50]
        refine m_see1 hM hm hBb hk (m_letterOf hby ?_)
        rw [mJ_m (by decide), g52]
        exact h.2 h8
      by_cases h8 : b1 < 8
      · refine ⟨(b1 + 1, sI (sJ ρb 1282 52 (lN (c6 B p (b1 + 1)))) 1282 50 (nI (p + (b1 + 1)))), ⟨rfl, (hm.wJ _ _ _).wI _ _ _, (fr.tr (Eqv.wJ (fun h => h (by omega)) _)).sI (fun h => h (by omega)) _, I_is _ _ _ _, ?_⟩, fun y K hK => head y K ⟨fun h => absurd ((lI (by decide) (by omega)).mp h) (by omega), fun _ s12 hs => ?_⟩⟩
        · show mJ (sJ ρb 1282 52 _) 1282 52 = _
          rw [J_is]
          by_cases e : b1 + 1 < 8
          · rw [min_lt e]
          · rw [show b1 + 1 = 8 by omega]; rfl
        · subst hs
          rw [min_lt h8, show (64 : Int64) = lN 64 from rfl, lN_mul, nI_l (by omega), lN_add, show c6 B p b1 * 64 + ltr (B (p + b1)) = c6 B p (b1 + 1) by show _ = 64 * c6 B p b1 + _; omega]
          simp (disch := omega) only [X_X12_advance_142, sJ_m, sI_m, mI_m, hM.1, true_and, forall_eq, mI_sJ, g50, nI_1]
          exact hK
      · refine ⟨(b1 + 1, sI ρb 1282 50 (nI (p + (b1 + 1)))), ⟨rfl, hm.wI _ _ _, fr.sI (fun h => h (by omega)) _, I_is _ _ _ _, ?_⟩, fun y K hK => head y K ⟨fun _ => ?_, fun h => absurd ((lI (by decide) (by omega)).mpr (by omega)) h⟩⟩
        · show mJ ρb 1282 52 = _
          rw [g52, show min b1 8 = min (b1 + 1) 8 by omega]
        · simp (disch := omega) only [X_X12_advance_142, sI_m, mI_m, hM.1, true_and, forall_eq, g50, nI_1]
          exact hK) 0 (Nat.zero_le _) (0, sJ ρ 1282 52 0) ⟨rfl, hm.wJ _ _ _, Eqv.wJ (fun h => h (by omega)) _, e50, J_is _ _ _ _⟩
    have hn : n = eTk B z p - p := hn
    subst hn
    have hmn : StM ρn := hmn
    have frn : Eqv _ ρ ρn := frn
    have g50 : mI ρn 1282 50 = _ := g50
    have g52 : mJ ρn 1282 52 = _ := g52
    have hBn : BtM ρn B z := hB.fr (frn.mo fun a k h => fun h2 => h (by omega))
    have e50' : mI ρn 1282 50 = nI (eTk B z p) := by rw [g50]; congr 1; omega
    have ek : tkd B z p = if eTk B z p - p ≤ 8 then 2 else 1 := by unfold tkd; rw [if_neg (by omega), if_pos hl]
    refine ⟨sI ρn 1282 51 (nI (tkd B z p)), fun κ1 Q hQ => ?_, hmn.wI _ _ _, (frn.mo fun a k h => fun h2 => h (by omega)).sI (fun h => h (by omega)) _, ?_⟩
    · have r158 : ∀ K : Int32 × Mem → Prop, X_X12_advance_86_s G Q 1282 K (nI (eTk B z p - p), mg κ1 ρn) := fun K => by
        have fin : X_X12_advance_158 G Q 1282 (nI (eTk B z p - p)) (mg κ1 ρn) := by
          by_cases h8 : eTk B z p - p ≤ 8
          · rw [ek, if_pos h8] at hQ
            simp (disch := omega) only [X_X12_advance_158, X_X12_advance_170, X_X12_advance_307, n8, lT, lF, tT, tF, eF, pF, zT, m1F, vT, cI, true_and, and_true, true_implies, false_implies, not_false_eq_true, not_true_eq_false, forall_eq, implies_true, sI_m, hM.1]
            exact hQ
          · rw [ek, if_neg h8] at hQ
            simp (disch := omega) only [X_X12_advance_158, X_X12_advance_170, X_X12_advance_307, n8, lT, lF, tT, tF, eF, pF, zT, m1F, vT, cI, true_and, and_true, true_implies, false_implies, not_false_eq_true, not_true_eq_false, forall_eq, implies_true, sI_m, hM.1]
            exact hQ
        simp (disch := omega) only [X_X12_advance_86_s, hM.1, true_and, mI_m, e50']
        by_cases h : eTk B z p < z
        · have hby := (hB.2.2 _ h).2
          have hnl : ltr (B (eTk B z p)) = 0 := Nat.eq_zero_of_not_pos (fun q => w2 h ((wrd_ltr _ hby).mpr q))
          refine m_see1 hM hmn hBn h (brF (pI (by omega)) ?_)
          rw [mI_m (by decide), e50']
          refine m_see1 hM hmn hBn h (m_letterOf hby ?_)
          rw [hnl]
          exact brT (by decide) fin
        · exact m_see0 hM hmn hBn (by omega) (by omega) (brT m1_neg fin)
      have r := run (κ1, Q) r158
      simp (disch := omega) only [X_X12_advance_56, n53, lT, lF, tT, tF, eF, pF, zT, m1F, vT, cI, true_and, and_true, true_implies, false_implies, not_false_eq_true, not_true_eq_false, forall_eq, implies_true, lt0, sJ_m, hM.1, X_X12_advance_86]
      exact r
    · refine ⟨?_, ?_, I_is _ _ _ _, fun h2 => ?_, fun h3 => ?_, fun h4 => ?_⟩
      · rw [I_sl (by decide), frn.I (fun h => by omega)]; exact e49
      · rw [I_sl (by decide), e50', if_pos hp]
      · show mJ ρn 1282 52 = _
        rw [g52]
        rw [ek] at h2
        by_cases h8 : eTk B z p - p ≤ 8
        · rw [Nat.min_eq_left h8]
        · rw [if_neg h8] at h2; omega
      · rw [ek] at h3
        by_cases h8 : eTk B z p - p ≤ 8
        · rw [if_pos h8] at h3; omega
        · rw [if_neg h8] at h3; omega
      · rw [ek] at h4
        by_cases h8 : eTk B z p - p ≤ 8
        · rw [if_pos h8] at h4; omega
        · rw [if_neg h8] at h4; omega
  · by_cases hd : dgt (B p) = true
    · -- a number
      obtain ⟨w1, w2⟩ := eTk_d hp hl hd
      have hd2 := (dgt_ltr (B p) hb).mp hd
      have dg : ∀ b, dgt b = true → 48 ≤ b ∧ b ≤ 57 := fun b h => of_decide_eq_true h
      have n48 : (48 : Int32) = nI 48 := rfl
      have n57 : (57 : Int32) = nI 57 := rfl
      have n10 : (10 : Int32) = nI 10 := rfl
      obtain ⟨⟨n, ρn⟩, ⟨hn, hmn, frn, g50, g53⟩, run⟩ := Lw.run (ι := Mem × (Mem → Prop)) (fun y => X_X12_advance_187_s G y.2 1282) (fun (b : Nat × Mem) y => (nI b.1, mg y.1 b.2)) (eTk B z p - p) (fun i b => b.1 = i ∧ StM b.2 ∧ Eqv (fun a k => ¬ (a = 1282 ∧ (k = 50 ∨ k = 53))) ρ b.2 ∧ mI b.2 1282 50 = nI (p + i) ∧ mI b.2 1282 53 = nI (cd B p (min i 6))) (by
        rintro i ⟨b1, ρb⟩ hi ⟨hb1, hm, fr, g50, g53⟩
        have hb1 : b1 = i := hb1
        subst hb1
        have hm : StM ρb := hm
        have fr : Eqv _ ρ ρb := fr
        have g50 : mI ρb 1282 50 = _ := g50
        have g53 : mI ρb 1282 53 = _ := g53
        have hBb : BtM ρb B z := hB.fr (fr.mo fun a k h => fun h2 => h (by omega))
        have hk : p + b1 < z := by omega
        have hby := (hB.2.2 (p + b1) hk).2
        have hdd := dg _ (w1 (p + b1) (by omega) (by omega))
        have head : ∀ (y : Mem × (Mem → Prop)) (K : Int32 × Mem → Prop), ((nI 6 ≤ nI b1 → X_X12_advance_242 G y.2 K 1282 (nI b1) (mg y.1 ρb)) ∧ (¬ nI 6 ≤ nI b1 → ∀ s8, s8 = sI (mg y.1 ρb) 1282 53 (nI (10 * cd B p (min b1 6) + B (p + b1) - 48)) → X_X12_advance_242 G y.2 K 1282 (nI b1) s8)) → X_X12_advance_187_s G y.2 1282 K (nI b1, mg y.1 ρb) := fun y K h => by
          simp (disch := omega) only [X_X12_advance_187_s, hM.1, true_and, mI_m, g50]
          refine m_see1 hM hm hBb hk ?_
          rw [n48]
          refine brF (fun q => by have := (tI (by omega) (by decide)).mp q; omega) ?_
          rw [mI_m (by decide), g50]
          refine m_see1 hM hm hBb hk ?_
          rw [n57]
          refine brF (fun q => by have := (tI (by decide) (by omega)).mp q; omega) ?_
          rw [n6]
          refine ⟨fun h6 => h.1 h6, fun h6 => ?_⟩
          rw [mI_m (by decide) 50, g50]
          refine m_see1 hM hm hBb hk ?_
          rw [mI_m (by decide) 53, g53, n10, pk_mul, nI_add, pk_sub (by omega)]
          exact h.2 h6
        by_cases h6 : b1 < 6
        · refine ⟨(b1 + 1, sI (sI ρb 1282 53 (nI (cd B p (b1 + 1)))) 1282 50 (nI (p + (b1 + 1)))), ⟨rfl, (hm.wI _ _ _).wI _ _ _, (fr.sI (fun h => h (by omega)) _).sI (fun h => h (by omega)) _, I_is _ _ _ _, ?_⟩, fun y K hK => head y K ⟨fun h => absurd ((lI (by decide) (by omega)).mp h) (by omega), fun _ s12 hs => ?_⟩⟩
          · show mI (sI (sI ρb 1282 53 _) 1282 50 _) 1282 53 = _
            rw [I_sl (by decide), I_is]
            by_cases e : b1 + 1 < 6
            · rw [min_lt e]
            · rw [show b1 + 1 = 6 by omega]; rfl
          · subst hs
            rw [min_lt h6, show 10 * cd B p b1 + B (p + b1) - 48 = cd B p (b1 + 1) by show _ = 10 * cd B p b1 + (B (p + b1) - 48); omega]
            simp (disch := omega) only [X_X12_advance_242, sI_m, mI_m, hM.1, true_and, forall_eq, I_sl, g50, nI_1]
            exact hK
        · refine ⟨(b1 + 1, sI ρb 1282 50 (nI (p + (b1 + 1)))), ⟨rfl, hm.wI _ _ _, fr.sI (fun h => h (by omega)) _, I_is _ _ _ _, ?_⟩, fun y K hK => head y K ⟨fun _ => ?_, fun h => absurd ((lI (by decide) (by omega)).mpr (by omega)) h⟩⟩
          · show mI (sI ρb 1282 50 _) 1282 53 = _
            rw [I_sl (by decide), g53, show min b1 6 = min (b1 + 1) 6 by omega]
          · simp (disch := omega) only [X_X12_advance_242, sI_m, mI_m, hM.1, true_and, forall_eq, g50, nI_1]
            exact hK) 0 (Nat.zero_le _) (0, sI ρ 1282 53 0) ⟨rfl, hm.wI _ _ _, Eqv.wI (fun h => h (by omega)) _, (I_sl (by decide)).trans e50, I_is _ _ _ _⟩
      have hn : n = eTk B z p - p := hn
      subst hn
      have hmn : StM ρn := hmn
      have frn : Eqv _ ρ ρn := frn
      have g50 : mI ρn 1282 50 = _ := g50
      have g53 : mI ρn 1282 53 = _ := g53
      have hBn : BtM ρn B z := hB.fr (frn.mo fun a k h => fun h2 => h (by omega))
      have e50' : mI ρn 1282 50 = nI (eTk B z p) := by rw [g50]; congr 1; omega
      have ek : tkd B z p = if eTk B z p - p ≤ 6 then 3 else 1 := by unfold tkd; rw [if_neg (by omega), if_neg hl, if_pos hd]
      refine ⟨sI ρn 1282 51 (nI (tkd B z p)), fun κ1 Q hQ => ?_, hmn.wI _ _ _, (frn.mo fun a k h => fun h2 => h (by omega)).sI (fun h => h (by omega)) _, ?_⟩
      · have r258 : ∀ K : Int32 × Mem → Prop, X_X12_advance_187_s G Q 1282 K (nI (eTk B z p - p), mg κ1 ρn) := fun K => by
          have fin : X_X12_advance_258 G Q 1282 (nI (eTk B z p - p)) (mg κ1 ρn) := by
            by_cases h6 : eTk B z p - p ≤ 6
            · rw [ek, if_pos h6] at hQ
              simp (disch := omega) only [X_X12_advance_258, X_X12_advance_270, X_X12_advance_307, n6, lT, lF, tT, tF, eF, pF, zT, m1F, vT, cI, true_and, and_true, true_implies, false_implies, not_false_eq_true, not_true_eq_false, forall_eq, implies_true, sI_m, hM.1]
              exact hQ
            · rw [ek, if_neg h6] at hQ
              simp (disch := omega) only [X_X12_advance_258, X_X12_advance_270, X_X12_advance_307, n6, lT, lF, tT, tF, eF, pF, zT, m1F, vT, cI, true_and, and_true, true_implies, false_implies, not_false_eq_true, not_true_eq_false, forall_eq, implies_true, sI_m, hM.1]
              exact hQ
          simp (disch := omega) only [X_X12_advance_187_s, hM.1, true_and, mI_m, e50']
          by_cases h : eTk B z p < z
          · have hby := (hB.2.2 _ h).2
            have hnd : ¬ (48 ≤ B (eTk B z p) ∧ B (eTk B z p) ≤ 57) := fun q => w2 h (decide_eq_true q)
            refine m_see1 hM hmn hBn h ?_
            rw [n48]
            by_cases h48 : B (eTk B z p) < 48
            · exact brT ((tI (by omega) (by decide)).mpr h48) fin
            · refine brF (fun q => h48 ((tI (by omega) (by decide)).mp q)) ?_
              rw [mI_m (by decide), e50']
              refine m_see1 hM hmn hBn h ?_
              rw [n57]
              exact brT ((tI (by decide) (by omega)).mpr (by omega)) fin
          · exact m_see0 hM hmn hBn (by omega) (by omega) (brT (by decide) fin)
        have r := run (κ1, Q) r258
        have hgt : ltr (B p) > 52 := by omega
        simp (disch := omega) only [X_X12_advance_56, X_X12_advance_176, n53, n52, lT, lF, tT, tF, eF, pF, zT, m1F, vT, cI, true_and, and_true, true_implies, false_implies, not_false_eq_true, not_true_eq_false, forall_eq, implies_true, lt0, sI_m, hM.1, X_X12_advance_187]
        exact r
      · refine ⟨?_, ?_, I_is _ _ _ _, fun h2 => ?_, fun h3 => ?_, fun h4 => ?_⟩
        · rw [I_sl (by decide), frn.I (fun h => by omega)]; exact e49
        · rw [I_sl (by decide), e50', if_pos hp]
        · rw [ek] at h2
          by_cases h6 : eTk B z p - p ≤ 6
          · rw [if_pos h6] at h2; omega
          · rw [if_neg h6] at h2; omega
        · rw [I_sl (by decide), g53]
          rw [ek] at h3
          by_cases h6 : eTk B z p - p ≤ 6
          · rw [Nat.min_eq_left h6]
          · rw [if_neg h6] at h3; omega
        · rw [ek] at h4
          by_cases h6 : eTk B z p - p ≤ 6
          · rw [if_pos h6] at h4; omega
          · rw [if_neg h6] at h4; omega
    · -- a sign, or none
      have hl0 : ltr (B p) = 0 := by
        have a : ¬ (0 < ltr (B p) ∧ ltr (B p) < 53) := fun q => hl ((ltt_ltr (B p) hb).mpr q)
        have b : ¬ 53 ≤ ltr (B p) := fun q => hd ((dgt_ltr (B p) hb).mpr q)
        omega
      have ee : eTk B z p = p + 1 := by unfold eTk; rw [if_neg hl, if_neg hd]
      have ek : tkd B z p = if sgn (B p) = true then 4 else 1 := by unfold tkd; rw [if_neg (by omega), if_neg hl, if_neg hd]
      refine ⟨sI (sI (sI ρ 1282 50 (nI (p + 1))) 1282 53 (nI (B p))) 1282 51 (nI (tkd B z p)), fun κ1 Q hQ => ?_, ((hm.wI _ _ _).wI _ _ _).wI _ _ _, ((Eqv.wI (fun h => h (by omega)) _).sI (fun h => h (by omega)) _).sI (fun h => h (by omega)) _, ?_⟩
      · rw [hl0]
        simp (disch := omega) only [X_X12_advance_56, X_X12_advance_176, n52, lT, lF, tT, tF, eF, pF, zT, m1F, vT, cI, true_and, and_true, true_implies, false_implies, not_false_eq_true, not_true_eq_false, forall_eq, implies_true, mI_m, sI_m, hM.1, e50, nI_1, show nI 0 ≤ 0 from by decide, show nI 0 ≤ nI 52 from by decide]
        refine m_isSign (fun h => br1 ?_) (fun h => br0 ?_)
        · rw [ek, if_pos ((nI_sgn (B p) hb).mp h)] at hQ
          simp (disch := omega) only [X_X12_advance_304, X_X12_advance_307, sI_m, hM.1, lT, lF, tT, tF, eF, pF, zT, m1F, vT, cI, true_and, and_true, true_implies, false_implies, not_false_eq_true, not_true_eq_false, forall_eq, implies_true]
          exact hQ
        · rw [ek, if_neg (fun q => h ((nI_sgn (B p) hb).mpr q))] at hQ
          simp (disch := omega) only [X_X12_advance_304, X_X12_advance_307, sI_m, hM.1, lT, lF, tT, tF, eF, pF, zT, m1F, vT, cI, true_and, and_true, true_implies, false_implies, not_false_eq_true, not_true_eq_false, forall_eq, implies_true]
          exact hQ
      · refine ⟨?_, ?_, I_is _ _ _ _, fun h2 => ?_, fun h3 => ?_, fun h4 => ?_⟩
        · rw [I_sl (by decide), I_sl (by decide), I_sl (by decide)]; exact e49
        · rw [I_sl (by decide), I_sl (by decide), I_is, if_pos hp, ee]
        · rw [ek] at h2
          by_cases h : sgn (B p) = true
          · rw [if_pos h] at h2; omega
          · rw [if_neg h] at h2; omega
        · rw [ek] at h3
          by_cases h : sgn (B p) = true
          · rw [if_pos h] at h3; omega
          · rw [if_neg h] at h3; omega
        · rw [I_sl (by decide), I_is]
theorem m_advance (hM : LyM G) (hm : StM ρ) (hB : BtM ρ B z) {e : Nat} (he : e ≤ z) (e50 : mI ρ 1282 50 = nI e) : ∃ ρ', RunM0 (fun Q σ => X_X12_advance G Q 1282 σ) ρ ρ' ∧ StM ρ' ∧ Eqv avM ρ ρ' ∧ TokM ρ' B z (nx B z e) := by
  have hz := hB.2.1
  obtain ⟨a1, a2, a3, a4⟩ := run_ok (p := blk) (B := B) (z := z) (i := e) he
  have a1 : e ≤ nx B z e := a1
  have a2 : nx B z e ≤ z := a2
  have a3 : ∀ j, e ≤ j → j < nx B z e → blk (B j) = true := a3
  have a4 : nx B z e < z → ¬ blk (B (nx B z e)) = true := a4
  generalize nx B z e = p at a1 a2 a3 a4
  obtain ⟨ρ2, e2⟩ : ∃ y, y = sI (sI ρ 1282 50 (nI p)) 1282 49 (nI p) := ⟨_, rfl⟩
  have hm2 : StM ρ2 := by rw [e2]; exact (hm.wI _ _ _).wI _ _ _
  have fr2 : Eqv avM ρ ρ2 := by rw [e2]; exact (Eqv.wI (fun h => h (by omega)) _).sI (fun h => h (by omega)) _
  have hB2 := hB.fr fr2
  have f49 : mI ρ2 1282 49 = nI p := by rw [e2, I_is]
  have f50 : mI ρ2 1282 50 = nI p := by rw [e2, I_sl (by decide), I_is]
  -- the end
  have fin : ∃ ρ', (∀ κ1 (Q : Mem → Prop), Q (mg κ1 ρ') → X_X12_see G (fun w8 s7 => ((0 ≤ w8 → X_X12_letterOf G (fun w10 s9 => X_X12_advance_56 G Q 1282 w8 w10 s9) w8 s7) ∧ (¬ 0 ≤ w8 → X_X12_advance_56 G Q 1282 w8 (0 : Int32) s7))) 1282 (nI p) (mg κ1 ρ2)) ∧ StM ρ' ∧ Eqv avM ρ2 ρ' ∧ TokM ρ' B z p := by
    by_cases h : p < z
    · obtain ⟨ρ', b1, b2, b3, b4⟩ := m_adv56 hM hm2 hB2 h f49 f50
      have hby := (hB.2.2 p h).2
      exact ⟨ρ', fun κ1 Q hQ => m_see1 hM hm2 hB2 h (brT (Int32.not_lt.mp (pI (by omega))) (m_letterOf hby (b1 κ1 Q hQ))), b2, b3, b4⟩
    · have ep : p = z := by omega
      have ek : tkd B z p = 0 := by unfold tkd; rw [if_pos (by omega)]
      refine ⟨sI ρ2 1282 51 0, fun κ1 Q hQ => m_see0 hM hm2 hB2 (by omega) (by omega) (brF (by decide) ?_), hm2.wI _ _ _, Eqv.wI (fun h => h (by omega)) _, ?_⟩
      · simp (disch := omega) only [X_X12_advance_56, m1z, lT, lF, tT, tF, eF, pF, zT, m1F, vT, cI, true_and, and_true, true_implies, false_implies, not_false_eq_true, not_true_eq_false, forall_eq, implies_true, sI_m, hM.1, X_X12_advance_307]
        exact hQ
      · refine ⟨?_, ?_, ?_, fun h2 => ?_, fun h3 => ?_, fun h4 => ?_⟩
        · rw [I_sl (by decide)]; exact f49
        · rw [I_sl (by decide), f50, if_neg h, ep]
        · rw [I_is, ek]; rfl
        · omega
        · omega
        · omega
  obtain ⟨ρ', b1, b2, b3, b4⟩ := fin
  refine ⟨ρ', fun κ1 Q hQ => ?_, b2, fr2.tr b3, b4⟩
  show X_X12_advance G Q 1282 (mg κ1 ρ)
  unfold X_X12_advance X_X12_advance_0
  have s0 : mg κ1 ρ = (fun i => mg κ1 (sI ρ 1282 50 (nI (e + i)))) 0 := by
    show _ = mg κ1 (sI ρ 1282 50 (nI (e + 0)))
    rw [Nat.add_zero, sI_id ρ 1282 50 (nI e) e50]
  rw [s0]
  refine Lw.seq (fun i => mg κ1 (sI ρ 1282 50 (nI (e + i)))) (p - e) (fun K i hi hK => ?_) (fun K => ?_)
  · have hk : e + i < z := by omega
    have hby := (hB.2.2 (e + i) hk).2
    have hmi : StM (sI ρ 1282 50 (nI (e + i))) := hm.wI _ _ _
    have hBi := hB.fr (ρ' := sI ρ 1282 50 (nI (e + i))) (Eqv.wI (fun h => h (by omega)) _)
    have g50 : mI (sI ρ 1282 50 (nI (e + i))) 1282 50 = nI (e + i) := I_is _ _ _ _
    show X_X12_advance_0_s G Q 1282 K (mg κ1 (sI ρ 1282 50 (nI (e + i))))
    simp (disch := omega) only [X_X12_advance_0_s, hM.1, true_and, mI_m, g50]
    refine m_see1 hM hmi hBi hk (m_isBlank (fun h => br1 ?_) (fun h => absurd ((nI_blk _ hby).mpr (a3 _ (by omega) (by omega))) h))
    intro s11 hs
    subst hs
    rw [mI_m (by decide), g50, nI_1, sI_m (by decide), sI_sI]
    exact hK
  · rw [show e + (p - e) = p by omega]
    have hmi : StM (sI ρ 1282 50 (nI p)) := hm.wI _ _ _
    have hBi := hB.fr (ρ' := sI ρ 1282 50 (nI p)) (Eqv.wI (fun h => h (by omega)) _)
    have g50 : mI (sI ρ 1282 50 (nI p)) 1282 50 = nI p := I_is _ _ _ _
    have g49 : mI (sI (sI ρ 1282 50 (nI p)) 1282 49 (nI p)) 1282 49 = nI p := I_is _ _ _ _
    have cont : ∀ s6, s6 = sI (mg κ1 (sI ρ 1282 50 (nI p))) 1282 49 (mI (mg κ1 (sI ρ 1282 50 (nI p))) 1282 50) → X_X12_see G (fun w8 s7 => ((0 ≤ w8 → X_X12_letterOf G (fun w10 s9 => X_X12_advance_56 G Q 1282 w8 w10 s9) w8 s7) ∧ (¬ 0 ≤ w8 → X_X12_advance_56 G Q 1282 w8 (0 : Int32) s7))) 1282 (mI s6 1282 49) s6 := fun s6 hs => by
      subst hs
      rw [mI_m (by decide), g50, sI_m (by decide), mI_m (by decide), g49, ← e2]
      exact b1 κ1 Q hQ
    show X_X12_advance_0_s G Q 1282 K (mg κ1 (sI ρ 1282 50 (nI p)))
    simp (disch := omega) only [X_X12_advance_0_s, hM.1, true_and]
    rw [mI_m (by decide), g50] at cont ⊢
    by_cases h : p < z
    · have hby := (hB.2.2 p h).2
      exact m_see1 hM hmi hBi h (m_isBlank (fun q => absurd ((nI_blk _ hby).mp q) (a4 h)) (fun _ => br0 (by rw [mI_m (by decide), g50]; exact cont)))
    · exact m_see0 hM hmi hBi (by omega) (by omega) (m_isBlank (fun q => by rcases q with q | q | q | q <;> exact absurd q (by decide)) (fun _ => br0 (by rw [mI_m (by decide), g50]; exact cont)))
end ADV
