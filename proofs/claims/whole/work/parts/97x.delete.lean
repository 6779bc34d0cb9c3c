section DELETE
variable {G : Lay} {nn sc n r0 r1 w : Nat} {mc rt hc K N N1 us : Nat → Nat} {κ κ' κ0 ρ ρ' ρ0 κ1 ρ1 : Mem} {u k f q : Nat} {l L : List Nat} {st : Nat → Int32} {rk : Nat → Nat} {C : Int32 → Int32 → Int32}
theorem RowsW.b (hY : RowsW n r0 mc rt K ρ) (hK : ∀ f, f < 12 → K f ≤ 512) : RowsB n r0 ρ := fun r hr => by
  obtain ⟨f, c, x, y1, y2, y3, y4, y5, y6, y7, y8, -⟩ := hY r hr
  exact ⟨c, x, y3, by have := hK f y1; omega, y4, y8⟩
/-- the row that leads to it first, and by which member -/
def LdB (n : Nat) (mc rt : Nat → Nat) (ρ : Mem) (r0 f : Nat) (x : Int32) (b c m0 : Nat) : Prop := b < r0 ∧ c < n ∧ mI ρ 1307 b = nI c ∧ cdP mc rt ρ f x b ∧ (∀ r, r < r0 → cdP mc rt ρ f x r → rkR ρ b ≤ rkR ρ r) ∧ lmP mc rt ρ c b f x m0 ∧ ∀ m, m < m0 → ¬ lmP mc rt ρ c b f x m
theorem leadCase (hB : RowsB n r0 ρ) (h12 : n ≤ 12) (f : Nat) (x : Int32) : (∀ r, r < r0 → ¬ cdP mc rt ρ f x r) ∨ ∃ b c m0, LdB n mc rt ρ r0 f x b c m0 := by
  by_cases h : ∃ r, r < r0 ∧ cdP mc rt ρ f x r
  · obtain ⟨r, h1, h2⟩ := h
    obtain ⟨v, ⟨b, b1, b2, b3⟩, b4⟩ := pk_least (fun v => ∃ r, r < r0 ∧ cdP mc rt ρ f x r ∧ rkR ρ r = v) ⟨_, r, h1, h2, rfl⟩
    obtain ⟨c, y, c1, -, ec, -⟩ := hB b b1
    obtain ⟨-, c', m, a1, a2, a3⟩ := id b2
    rw [show c' = c from (eI (by omega) (by omega)).mp (a2.symm.trans ec)] at a3
    obtain ⟨m0, m1, m2⟩ := pk_least _ ⟨m, a3⟩
    refine Or.inr ⟨b, c, m0, b1, c1, ec, b2, fun r' r1 r2 => ?_, m1, m2⟩
    by_cases h : rkR ρ r' < v
    · exact absurd ⟨r', r1, r2, rfl⟩ (b4 _ h)
    · omega
  · exact Or.inl (fun r h1 h2 => h ⟨r, h1, h2⟩)
theorem m_leadsTo1 (hM : LyM G) (hm : StM ρ) (hS : RelS sc n mc rt hc κ ρ) (hR : RelR N r0 κ ρ) (hY : RowsW n r0 mc rt K ρ) (hB : RowsB n r0 ρ) {x : Int32} (hf : f < 12) {b c m0 : Nat} (h : LdB n mc rt ρ r0 f x b c m0) {Q : Int32 → Mem → Prop} (q : Q (nI b) (mg κ1 (sI (sI ρ 1282 57 (nI m0)) 1282 58 2))) : X_X12_leadsTo G Q 1282 (nI f) x (mg κ1 ρ) := by
  have h12 := hS.le
  obtain ⟨b1, b2, b3, b4, b5, b6, b7⟩ := h
  refine m_leadsTo hM hm hS hR.2.1 hR.le hB hf (fun b' c' m0' a1 a2 a3 a4 a5 a6 a7 => ?_) (fun h => absurd b4 (h b b1))
  have e1 := b5 b' a1 a4
  have e2 := a5 b b1 b4
  obtain ⟨d, y, d1, y1, ed, ey⟩ := hB b b1
  obtain ⟨d', y', d1', y1', ed', ey'⟩ := hB b' a1
  have rb : rkR ρ b = 1000 * d + y := by unfold rkR; rw [ed, ey, cI (by omega), cI (by omega)]
  have rb' : rkR ρ b' = 1000 * d' + y' := by unfold rkR; rw [ed', ey', cI (by omega), cI (by omega)]
  have edd : d' = d := by omega
  have eyy : y' = y := by omega
  have fam : ∀ r, r < r0 → ∀ c, c < n → mI ρ 1307 r = nI c → mI ρ 1305 r = nI (rt c) := fun r hr c hc e => by
    obtain ⟨g, c', x, z1, z2, z3, z4, z5, -⟩ := hY r hr
    rw [show c = c' from (eI (by omega) (by omega)).mp (e.symm.trans z4), z5]; exact z2
  have ebb : b' = b := hR.2.2.2.2.2.2.1 b' b a1 b1 (by rw [fam b' a1 d' d1' ed', fam b b1 d d1 ed, edd]) (by rw [ey, ey', eyy])
  subst ebb
  have ecc : c' = c := (eI (by omega) (by omega)).mp (a3.symm.trans b3)
  subst ecc
  have emm : m0' = m0 := by
    by_cases h : m0' < m0
    · exact absurd a6 (b7 m0' h)
    · by_cases h2 : m0 < m0'
      · exact absurd b6 (a7 m0 h2)
      · omega
  rw [emm]; exact q
/-- what a deletion leaves as it is -/
def deM (p a j : Nat) : Prop := ¬ (a = 1282 ∧ (j = 26 ∨ j = 57 ∨ j = 58 ∨ j = 69) ∨ 1305 ≤ a ∧ a ≤ 1309 ∨ 1330 ≤ a ∧ a ≤ 1333 ∨ a = 1338 ∧ j = p)
theorem j_delete (hG : Ly G) (hA0 : RelA nn sc n mc rt hc K N1 r1 us κ0 ρ0) (hnn : nn ≤ 512) (hu : u < 4) (ho0 : mI ρ0 1316 u = 1) (hM : Mid n mc rt K C u κ0 ρ0 N r0 κ ρ) (hl : Log w κ ρ) (hw : w < 120) (hk : k < us u) (hs : mI ρ0 1319 (60 * u + k) = 3) :
    (∃ κ' ρ', RunC (fun Q σ => X_X10_delete G Q 1269 (537 + 184 * u + 3 * k) σ) κ 0 κ' ∧ (∀ κ1 (Q : Int32 → Mem → Prop) (K35 : Int32 × Mem → Prop) (l2 : Int32), Q 0 (mg κ1 ρ') → X_X12_deleteAll_123 G Q K35 1282 l2 (nI (60 * u + k)) (mg κ1 ρ)) ∧ Brk u κ0 ρ0 κ' ρ') ∨
    (∃ κ' ρ' N', RunC (fun Q σ => X_X10_delete G Q 1269 (537 + 184 * u + 3 * k) σ) κ 1 κ' ∧ (∀ κ1 (Q : Int32 → Mem → Prop) (K35 : Int32 × Mem → Prop) (l2 : Int32), K35 (l2 + (-1), mg κ1 ρ') → X_X12_deleteAll_123 G Q K35 1282 l2 (nI (60 * u + k)) (mg κ1 ρ)) ∧ Mid n mc rt K C u κ0 ρ0 N' (r0 - 1) κ' ρ' ∧ Log (w + 1) κ' ρ' ∧ Eqv (inC u k) κ κ' ∧ Eqv (deM (60 * u + k)) ρ ρ' ∧ mI κ' (537 + 184 * u + 3 * k) 9 = 1 ∧ mI ρ' 1338 (60 * u + k) = 1 ∧ (∀ F X, hasR r0 ρ F X → ¬ (F = mI ρ0 1320 (60 * u + k) ∧ X = mI ρ0 1321 (60 * u + k)) → hasR (r0 - 1) ρ' F X) ∧ ∀ s', s' < r0 - 1 → ∃ s, s < r0 ∧ mI ρ' 1305 s' = mI ρ 1305 s ∧ mI ρ' 1306 s' = mI ρ 1306 s) := by
  have hL := hG.1
  have hMM := hG.2.2.2
  have hS := hM.S hA0 hu
  have hU := hM.U hA0 hu
  obtain ⟨⟨hC, hm⟩, fC, fM, hR, hY, hcl⟩ := id hM
  have z0 : ∀ a j, 1316 ≤ a → a ≤ 1325 → mI ρ a j = mI ρ0 a j := fun a j h1 h2 => fM.I (wfM_u h1 h2)
  obtain ⟨c, f, x, c1, c2, c3, c4, c5, c6, c7, c8, c9, c10, c11⟩ := hA0.lv3 hu ho0 hk (Or.inr (Or.inr hs))
  have ho : mI ρ 1316 u = 1 := (z0 _ _ (by decide) (by decide)).trans ho0
  obtain ⟨h60, o2, o3, o4, o5⟩ := hU.op hu ho
  obtain ⟨t1, t2, t3, t4, t5, t6⟩ := o5 k hk
  have e2 : mI ρ 1320 (60 * u + k) = nI f := (z0 _ _ (by decide) (by decide)).trans c5
  have e3 : mI ρ 1321 (60 * u + k) = nI x := (z0 _ _ (by decide) (by decide)).trans c9
  rw [e2] at t2
  have t3' := t3
  have t4' := t4
  rw [e3] at t3
  have hk60 : k < 60 := by omega
  have hRM := hY.m hR
  have hr7 := hR.le
  have h12 := hS.le
  have hNf := (hR.1 f c4).2
  have hB : RowsB n r0 ρ := hY.b (fun f hf => by have := (hA0.2.2.2.2.2.1 f hf).2.2; omega)
  have stale : ((∀ ρ1 (Q : Int32 → Mem → Prop), X_X10_delete_37 G Q 1269 (537 + 184 * u + 3 * k) (mg κ ρ1) → X_X10_delete G Q 1269 (537 + 184 * u + 3 * k) (mg κ ρ1)) ∧ ∀ κ1 (Q : Int32 → Mem → Prop) (K35 : Int32 × Mem → Prop) (l2 : Int32), X_X12_deleteAll_167 G Q 1282 (nI (60 * u + k)) (mg κ1 ρ) → X_X12_deleteAll_123 G Q K35 1282 l2 (nI (60 * u + k)) (mg κ1 ρ)) → (∃ κ' ρ', RunC (fun Q σ => X_X10_delete G Q 1269 (537 + 184 * u + 3 * k) σ) κ 0 κ' ∧ (∀ κ1 (Q : Int32 → Mem → Prop) (K35 : Int32 × Mem → Prop) (l2 : Int32), Q 0 (mg κ1 ρ') → X_X12_deleteAll_123 G Q K35 1282 l2 (nI (60 * u + k)) (mg κ1 ρ)) ∧ Brk u κ0 ρ0 κ' ρ') := fun hh =>
    ⟨brkC κ (537 + 184 * u + 3 * k) 2 (-1) (-1), endM ρ (60 * u + k) 2, fun ρ1 Q hQ => hh.1 ρ1 Q ⟨by simp only [hL.1], c_breakOff hL hu hk60 ⟨bz0, hQ⟩⟩, fun κ1 Q K35 l2 hQ => hh.2 κ1 Q K35 l2 ⟨hMM.1, m_ends hMM hm (by omega) (by decide) ⟨bz0, hQ⟩⟩, Brk.ends hC hm fC fM hl (by omega) t3' t4' (by decide)⟩
  rcases rowCase hR c4 (nI x) with ⟨i, r, i1, i2, i3, i4⟩ | ⟨q1, q2⟩
  · obtain ⟨w1, w2, w3, w4, w5⟩ := id i3
    by_cases hv : mI ρ 1308 r = mI ρ 1323 (60 * u + k)
    · have hv2 : mI κ 273 (60 * f + i) = mI κ (537 + 184 * u + 3 * k) 5 := by rw [w4, t5, hv]
      have goC : ∀ ρ1 (Q : Int32 → Mem → Prop), X_X5_leadingMember G (fun w10 s9 => ((w10 = (-1 : Int32) → gT G (mR s9 1269 0) = 6 ∧ X_X5_remove G (fun s12 => ∀ s13, s13 = sI s12 (537 + 184 * u + 3 * k) 9 (1 : Int32) → X_X10_noteWrite G (fun s15 => Q (1 : Int32) s15) 1269 (2 : Int32) (537 + 184 * u + 3 * k) (0 : Int32) s13) (mR s9 1269 0) (mI s9 (537 + 184 * u + 3 * k) 2) (nI (60 * f + i)) s9) ∧ (¬ w10 = (-1 : Int32) → X_X10_breakOff G (fun w17 s16 => (bz w17 ∧ Q w17 s16)) 1269 (1 : Int32) (537 + 184 * u + 3 * k) w10 (2 : Int32) s9))) 13 (nI f) (nI x) (mg κ ρ1) → X_X10_delete G Q 1269 (537 + 184 * u + 3 * k) (mg κ ρ1) := fun ρ1 Q h => by
        simp (disch := omega) only [X_X10_delete, X_X10_delete_0, mI_c, mR_c, mJ_c, sI_c, sJ_c, sR_c, hL.1, hL.2.1, hL.2.2, hC.1, hC.2.1, hC.2.2.1, lT, lF, tT, tF, eF, pF, zT, m1F, vT, cI, true_and, and_true, true_implies, false_implies, not_false_eq_true, not_true_eq_false, forall_eq, implies_true, t2, t3]
        refine c_rowOf1 hL hC hR c4 i1 (w2.trans i4) (brF (mI1 (by omega)) ?_)
        simp (disch := omega) only [mI_c, mR_c, mJ_c, sI_c, sJ_c, sR_c, hL.1, hL.2.1, hL.2.2, hC.1, hC.2.1, hC.2.2.1, lT, lF, tT, tF, eF, pF, zT, m1F, vT, cI, true_and, and_true, true_implies, false_implies, not_false_eq_true, not_true_eq_false, forall_eq, implies_true, hv2, t2, t3, bzT1, forall_eq]
        simp only [forall_eq] at h
        exact h
      have goM : ∀ κ1 (Q : Int32 → Mem → Prop) (K35 : Int32 × Mem → Prop) (l2 : Int32), X_X12_leadsTo G (fun w17 s16 => ((w17 < 0 → X_X12_goRow G (fun s18 => gT G (mR s18 1282 79) = 102 ∧ vp_in (nI (60 * u + k)) (gL G (mR s18 1282 79)) ∧ ∀ s21, s21 = sI s18 (mR s18 1282 79) (60 * u + k) (vp_nar .boolean (1 : Int32)) → X_X12_written G (fun s22 => K35 ((l2 + (-1 : Int32)), s22)) 1282 (2 : Int32) (nI (60 * u + k)) (0 : Int32) s21) 1282 (nI r) s16) ∧ (¬ w17 < 0 → X_X12_ends G (fun w24 s23 => (bz w24 ∧ Q w24 s23)) 1282 (1 : Int32) (nI (60 * u + k)) s16))) 1282 (nI f) (nI x) (mg κ1 ρ) → X_X12_deleteAll_123 G Q K35 1282 l2 (nI (60 * u + k)) (mg κ1 ρ) := fun κ1 Q K35 l2 h => by
        unfold X_X12_deleteAll_123
        refine ⟨hMM.1, by rw [mR_m (by decide), hm.2.2.2.2.2.2.2.2.2.2.2.2.2.2.2.2.2.2.2.2.2.2.2.2.2.2.2.2.2.2.2.2.2.2.2.2.2.1]; simp only [hMM.2], ?_⟩
        simp (disch := omega) only [mI_m, mR_m, hMM.2, hm.1, hm.2, vT, cI, true_and, e2, e3]
        refine m_rowOf1 hMM hm hR i2 w1 i4 (brF (pI (by omega)) ?_)
        refine ⟨by simp (disch := omega) only [mR_m, hMM.2, hm.2], by simp (disch := omega) only [mR_m, hMM.2, hm.2, vT], by simp (disch := omega) only [mR_m, hMM.2, hm.2], by simp (disch := omega) only [mR_m, hMM.2, hm.2, vT], ?_⟩
        refine brT (by simp (disch := omega) only [mI_m, mR_m, hm.2, cI]; exact hv) ⟨by simp (disch := omega) only [mR_m, hMM.2, hm.2], by simp (disch := omega) only [mR_m, hMM.2, hm.2, vT], by simp (disch := omega) only [mR_m, hMM.2, hm.2], by simp (disch := omega) only [mR_m, hMM.2, hm.2, vT], ?_⟩
        have ea : mI (mg κ1 ρ) (mR (mg κ1 ρ) 1282 43) (60 * u + k) = nI f := by simp (disch := omega) only [mI_m, mR_m, hm.2, e2]
        have eb : mI (mg κ1 ρ) (mR (mg κ1 ρ) 1282 44) (60 * u + k) = nI x := by simp (disch := omega) only [mI_m, mR_m, hm.2, e3]
        rw [ea, eb]
        exact h
      rcases leadCase (mc := mc) (rt := rt) hB h12 f (nI x) with hno | ⟨b, cb, m0, hld⟩
      · -- it goes
        obtain ⟨ρa, ra, hma, fra, g26, g2, g3⟩ := m_goRow hMM hm hR.2.1 hr7 i2
        obtain ⟨κe, eκe⟩ : ∃ y, y = sI (sI (mvC κ (60 * f + i + 1) (60 * f + i) (N f - i - 1)) 270 f (nI (N f - 1))) (537 + 184 * u + 3 * k) 9 1 := ⟨_, rfl⟩
        obtain ⟨ρe, eρe⟩ : ∃ y, y = sI ρa 1338 (60 * u + k) 1 := ⟨_, rfl⟩
        have hCe : StC κe := by rw [eκe]; exact ((hC.mv _ _ _).wI _ _ _).wI _ _ _
        have hme : StM ρe := by rw [eρe]; exact hma.wI _ _ _
        have fCe : Eqv (fun a j => ¬ (270 ≤ a ∧ a ≤ 274 ∨ a = 537 + 184 * u + 3 * k ∧ j = 9)) κ κe := by
          rw [eκe]
          refine ((Eqv.mv _ _ _ (fun a j h1 h2 h => h (by omega))).sI ?_ _).sI ?_ _
          all_goals exact fun h => h (by omega)
        have fMe : Eqv (fun a j => ¬ (a = 1282 ∧ j = 26 ∨ 1305 ≤ a ∧ a ≤ 1309 ∨ a = 1338 ∧ j = 60 * u + k)) ρ ρe := by
          rw [eρe]
          exact (fra.mo fun a j h => by omega).sI (fun h => h (by omega)) _
        have g2' : ∀ j, j < r → reE ρ ρe j j := fun j hj => by
          obtain ⟨v1, v2, v3, v4, v5⟩ := g2 j hj
          rw [eρe]
          exact ⟨by rw [I_cl (by decide)]; exact v1, by rw [I_cl (by decide)]; exact v2, by rw [I_cl (by decide)]; exact v3, by rw [I_cl (by decide)]; exact v4, fun m hm => by rw [I_cl (by decide)]; exact v5 m hm⟩
        have g3' : ∀ j, r ≤ j → j + 1 < r0 → reE ρ ρe j (j + 1) := fun j h1 h2 => by
          obtain ⟨v1, v2, v3, v4, v5⟩ := g3 j h1 h2
          rw [eρe]
          exact ⟨by rw [I_cl (by decide)]; exact v1, by rw [I_cl (by decide)]; exact v2, by rw [I_cl (by decide)]; exact v3, by rw [I_cl (by decide)]; exact v4, fun m hm => by rw [I_cl (by decide)]; exact v5 m hm⟩
        have rwx : ∀ j j', rwE κ (mvC κ (60 * f + i + 1) (60 * f + i) (N f - i - 1)) j j' → rwE κ κe j j' := fun j j' h => by
          obtain ⟨v1, v2, v3, v4⟩ := h
          rw [eκe]
          refine ⟨?_, ?_, ?_, fun m hm => ?_⟩
          · rw [I_cl (by omega), I_cl (by decide)]; exact v1
          · rw [I_cl (by omega), I_cl (by decide)]; exact v2
          · rw [I_cl (by omega), I_cl (by decide)]; exact v3
          · rw [I_cl (by omega), I_cl (by decide)]; exact v4 m hm
        have yR : RelR (upN N f (N f - 1)) (r0 - 1) κe ρe := by
          refine hR.del c4 i1 i2 i3 ?_ (fun g g1 g2 => ?_) (fun g g1 g2 j hj => rwx _ _ (mvC_out (by omega))) (fun j hj => rwx _ _ (mvC_out (by omega))) (fun j h1 h2 => rwx _ _ ?_) ?_ g2' g3'
          · rw [eκe, I_cl (by omega), I_is]
          · rw [eκe, I_cl (by omega), I_sl g2, mvC_I (Or.inl (by decide))]
          · have := mvC_in (κ := κ) (a := 60 * f + i + 1) (b := 60 * f + i) (n := N f - i - 1) (i := j - i) (by omega)
            rw [show 60 * f + i + 1 + (j - i) = 60 * f + (j + 1) by omega, show 60 * f + i + (j - i) = 60 * f + j by omega] at this
            exact this
          · rw [eρe, I_cl (by decide)]; exact g26
        have sme : Eqv sM ρ ρe := fMe.mo fun a j z => by simp only [sM] at z; omega
        have hSe : RelS sc n mc rt hc κe ρe := hS.fr (fCe.mo fun a j z => by have := hS.s2; simp only [sCc] at z; omega) sme
        have yY : RowsW n (r0 - 1) mc rt K ρe := RowsW.del hS hY i2 sme w1 i4 hno (fun s s1 s2 s3 => hR.2.2.2.2.2.2.1 s r s1 i2 (s2.trans w1.symm) (s3.trans i4.symm)) c4 g2' g3'
        have le : Log w κe ρe := hl.fr (fCe.mo fun a j z => by simp only [wC] at z; omega) (fMe.mo fun a j z => by simp only [wM] at z; omega)
        have ze : ∀ a, 1321 ≤ a → a ≤ 1322 → mI ρe a (60 * u + k) = mI ρ a (60 * u + k) := fun a h1 h2 => fMe.I (by omega)
        obtain ⟨κ', ρ', d1, d2, d3, d4, d5, d6, d7⟩ := j_note hG hCe hme le hw hu hk60 (by rw [fCe.I (by omega), ze _ (by decide) (by decide)]; exact t3') (by rw [fCe.I (by omega), ze _ (by decide) (by decide)]; exact t4') 2 0
        have y5 : ∀ a j, 1305 ≤ a → a ≤ 1309 → mI ρ' a j = mI ρe a j := fun a j h1 h2 => d6.I (fun h => by omega)
        have old : ∀ s', s' < r0 - 1 → ∃ s, s < r0 ∧ reE ρ ρe s' s := fun s' hs => by
          by_cases h : s' < r
          · exact ⟨s', by omega, g2' s' h⟩
          · exact ⟨s' + 1, by omega, g3' s' (by omega) (by omega)⟩
        refine Or.inr ⟨κ', ρ', upN N f (N f - 1), fun ρ1 Q hQ => ?_, fun κ1 Q K35 l2 hQ => ?_, ⟨⟨d3, d4⟩, ?_, ?_, ?_, ?_, fun s hs => ?_⟩, d7, ?_, ?_, ?_, ?_, ?_, fun s' hs' => ?_⟩
        · refine goC ρ1 Q (c_leading0 hG hC hS hR hB c4 hno (brT rfl ?_))
          simp (disch := omega) only [mI_c, mR_c, mJ_c, sI_c, sJ_c, sR_c, hL.1, hL.2.1, hL.2.2, hC.1, hC.2.1, hC.2.2.1, lT, lF, tT, tF, eF, pF, zT, m1F, vT, cI, true_and, and_true, true_implies, false_implies, not_false_eq_true, not_true_eq_false, forall_eq, implies_true, t2]
          refine c_remove hL hC hR c4 i1 ?_
          simp (disch := omega) only [sI_c]
          rw [← eκe]
          exact d1 ρ1 _ hQ
        · refine goM κ1 Q K35 l2 (m_leadsTo hMM hm hS hR.2.1 hr7 hB c4 (fun b c m0 a1 a2 a3 a4 => absurd a4 (hno b a1)) (fun _ => brT m1_neg ?_))
          refine ra κ1 _ ?_
          simp (disch := omega) only [mI_m, mR_m, sI_m, hMM.1, hMM.2, hma.1, hma.2, lT, lF, tT, tF, eF, pF, zT, m1F, vT, cI, true_and, and_true, true_implies, false_implies, not_false_eq_true, not_true_eq_false, forall_eq, implies_true, narb1]
          rw [← eρe]
          exact d2 κ1 _ hQ
        · refine (fC.tr (fCe.mo fun a j z h => z ?_)).tr (d5.mo fun a j z h => z ?_)
          · rcases h with h | h
            · exact Or.inl h
            · exact Or.inr (Or.inr (Or.inr ⟨k, hk60, h.1, Or.inl h.2⟩))
          · rcases h with h | h
            · exact Or.inr (Or.inl ⟨h.1, by omega, by omega⟩)
            · exact Or.inr (Or.inr (Or.inl h))
        · exact (fM.tr (fMe.mo fun a j z h => z (by omega))).tr (d6.mo fun a j z h => z (by omega))
        · exact yR.fr (d5.mo fun a j z h => by simp only [rC] at z; omega) (d6.mo fun a j z h => by simp only [rM] at z; omega)
        · exact yY.fr hSe (d6.mo fun a j z h => by simp only [rM] at z; omega) (d6.mo fun a j z h => by simp only [sM] at z; omega)
        · rw [y5 _ _ (by decide) (by decide), y5 _ _ (by decide) (by decide), y5 _ _ (by decide) (by decide)]
          obtain ⟨s2, b1, b2, b3, b4, -⟩ := old s hs
          rw [b2, b3, b4]; exact hcl s2 b1
        · exact (fCe.mo fun a j z h => z (by omega)).tr (d5.mo fun a j z h => z (by omega))
        · exact (fMe.mo fun a j z h => z (by omega)).tr (d6.mo fun a j z h => z (by omega))
        · rw [d5.I (fun h => by omega), eκe]; exact I_is _ _ _ _
        · rw [d6.I (fun h => by omega), eρe]; exact I_is _ _ _ _
        · rintro F X ⟨s, s1, s2, s3⟩ hne
          have hsr : s ≠ r := fun e => hne (by rw [← s2, ← s3, e, w1, i4, c5, c9]; exact ⟨rfl, rfl⟩)
          by_cases h : s < r
          · refine ⟨s, by omega, ?_, ?_⟩
            · rw [y5 _ _ (by decide) (by decide), (g2' s h).1]; exact s2
            · rw [y5 _ _ (by decide) (by decide), (g2' s h).2.1]; exact s3
          · have := g3' (s - 1) (by omega) (by omega)
            rw [show s - 1 + 1 = s by omega] at this
            refine ⟨s - 1, by omega, ?_, ?_⟩
            · rw [y5 _ _ (by decide) (by decide), this.1]; exact s2
            · rw [y5 _ _ (by decide) (by decide), this.2.1]; exact s3
        · obtain ⟨s, b1, b2, b3, -⟩ := old s' hs'
          exact ⟨s, b1, by rw [y5 _ _ (by decide) (by decide)]; exact b2, by rw [y5 _ _ (by decide) (by decide)]; exact b3⟩
      · -- another leads to it
        obtain ⟨b1, b2, b3, b4, b5, b6, b7⟩ := id hld
        have h16 := hS.m16 b2
        have hm0 := b6.1
        refine Or.inl ⟨brkC κ (537 + 184 * u + 3 * k) 1 (nI m0) 2, sI (sI (endM (sI (sI ρ 1282 57 (nI m0)) 1282 58 2) (60 * u + k) 1) 1282 67 (nI m0)) 1282 68 2, fun ρ1 Q hQ => ?_, fun κ1 Q K35 l2 hQ => ?_, ?_⟩
        · refine goC ρ1 Q (c_leading1 hG hC hS hR hB hY c4 b1 b2 b3 b4 b5 b6 b7 (brF (mI1 (by omega)) ?_))
          exact c_breakOff hL hu hk60 ⟨bz0, hQ⟩
        · refine goM κ1 Q K35 l2 (m_leadsTo1 hMM hm hS hR hY hB c4 hld (brF (pI (by omega)) ?_))
          refine m_ends1 hMM ((hm.wI _ _ _).wI _ _ _) (by omega) ⟨bz0, ?_⟩
          have e57 : mI (sI (sI ρ 1282 57 (nI m0)) 1282 58 2) 1282 57 = nI m0 := by rw [I_sl (by decide), I_is]
          have e58 : mI (sI (sI ρ 1282 57 (nI m0)) 1282 58 2) 1282 58 = 2 := I_is _ _ _ _
          rw [e57, e58]
          exact hQ
        · have := Brk.ends1 (κ0 := κ0) (ρ0 := ρ0) (u := u) (k := k) hC ((hm.wI 1282 57 (nI m0)).wI 1282 58 2) fC ((fM.sI (fun h => h (Or.inl ⟨rfl, by omega⟩)) _).sI (fun h => h (Or.inl ⟨rfl, by omega⟩)) _) (hl.fr Eqv.rf ((Eqv.wI (by simp only [wM]; omega) _).sI (by simp only [wM]; omega) _)) (by omega) (by rw [I_cl (by decide), I_cl (by decide)]; exact t3') (by rw [I_cl (by decide), I_cl (by decide)]; exact t4')
          have e57 : mI (sI (sI ρ 1282 57 (nI m0)) 1282 58 2) 1282 57 = nI m0 := by rw [I_sl (by decide), I_is]
          have e58 : mI (sI (sI ρ 1282 57 (nI m0)) 1282 58 2) 1282 58 = 2 := I_is _ _ _ _
          rw [e57, e58] at this
          exact this
    · have hv2 : ¬ mI κ 273 (60 * f + i) = mI κ (537 + 184 * u + 3 * k) 5 := by rw [w4, t5]; exact hv
      refine Or.inl (stale ⟨fun ρ1 Q h => ?_, fun κ1 Q K35 l2 h => ?_⟩)
      · simp (disch := omega) only [X_X10_delete, X_X10_delete_0, mI_c, mR_c, mJ_c, sI_c, sJ_c, sR_c, hL.1, hL.2.1, hL.2.2, hC.1, hC.2.1, hC.2.2.1, lT, lF, tT, tF, eF, pF, zT, m1F, vT, cI, true_and, and_true, true_implies, false_implies, not_false_eq_true, not_true_eq_false, forall_eq, implies_true, t2, t3]
        refine c_rowOf1 hL hC hR c4 i1 (w2.trans i4) (brF (mI1 (by omega)) ?_)
        simp (disch := omega) only [mI_c, mR_c, mJ_c, sI_c, sJ_c, sR_c, hL.1, hL.2.1, hL.2.2, hC.1, hC.2.1, hC.2.2.1, lT, lF, tT, tF, eF, pF, zT, m1F, vT, cI, true_and, and_true, true_implies, false_implies, not_false_eq_true, not_true_eq_false, forall_eq, implies_true]
        exact brF hv2 h
      · simp (disch := omega) only [X_X12_deleteAll_123, mI_m, mR_m, hMM.1, hMM.2, hm.1, hm.2, lT, lF, tT, tF, eF, pF, zT, m1F, vT, cI, true_and, and_true, true_implies, false_implies, not_false_eq_true, not_true_eq_false, forall_eq, implies_true, e2, e3]
        refine m_rowOf1 hMM hm hR i2 w1 i4 (brF (pI (by omega)) ?_)
        simp (disch := omega) only [mI_m, mR_m, hMM.1, hMM.2, hm.1, hm.2, lT, lF, tT, tF, eF, pF, zT, m1F, vT, cI, true_and, and_true, true_implies, false_implies, not_false_eq_true, not_true_eq_false, forall_eq, implies_true]
        exact brF hv h
  · refine Or.inl (stale ⟨fun ρ1 Q h => ?_, fun κ1 Q K35 l2 h => ?_⟩)
    · simp (disch := omega) only [X_X10_delete, X_X10_delete_0, mI_c, mR_c, mJ_c, sI_c, sJ_c, sR_c, hL.1, hL.2.1, hL.2.2, hC.1, hC.2.1, hC.2.2.1, lT, lF, tT, tF, eF, pF, zT, m1F, vT, cI, true_and, and_true, true_implies, false_implies, not_false_eq_true, not_true_eq_false, forall_eq, implies_true, t2, t3]
      exact c_rowOf0 hL hC hR c4 q1 (brT rfl h)
    · simp (disch := omega) only [X_X12_deleteAll_123, mI_m, mR_m, hMM.1, hMM.2, hm.1, hm.2, lT, lF, tT, tF, eF, pF, zT, m1F, vT, cI, true_and, and_true, true_implies, false_implies, not_false_eq_true, not_true_eq_false, forall_eq, implies_true, e2, e3]
      exact m_rowOf0 hMM hm hR.2.1 hr7 q2 (brT m1_neg h)
end DELETE
