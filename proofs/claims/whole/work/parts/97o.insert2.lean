section INSERT2
variable {G : Lay} {nn sc n r0 r1 w : Nat} {mc rt hc K N N1 us : Nat → Nat} {κ κ' κ0 ρ ρ' ρ0 κ1 ρ1 : Mem} {u k f p q : Nat} {C : Int32 → Int32 → Int32}
theorem notB {b : Bool} (h : (!b) = true) : b = false := by
  cases b with
  | false => rfl
  | true => cases h
/-- the class's further row with its values, noted as written -/
def adC2 (κ : Mem) (f q N T : Nat) (X Cc : Int32) (vs : Nat → Int32) : Mem := sI (sF (sI (sI (sI (sI (mvC κ (60 * f + q) (60 * f + q + 1) (N - q)) 270 f (nI (N + 1))) 271 (60 * f + q) X) 272 (60 * f + q) Cc) 273 (60 * f + q) 1) 274 (16 * (60 * f + q)) (16 * (60 * f + q) + 16) (fun j => vs (j - 16 * (60 * f + q)))) T 9 1
theorem c_insTail (hG : Ly G) (hC : StC κ) (hu : u < 4) (hk : k < 60) (hf : f < 12) (hN : N f < 60) (hq : q ≤ N f) {X Cc : Int32} {w : Int32} {pb : Nat → Bool} (hp : ∀ m, m < 16 → (((w >>> (nI m &&& 31)) &&& (1 : Int32)) = 0) = (pb m = false)) {Q : Int32 → Mem → Prop} (h : X_X10_noteWrite G (fun s5 => Q (1 : Int32) s5) 1269 0 (537 + 184 * u + 3 * k) 0 (mg (adC2 κ f q (N f) (537 + 184 * u + 3 * k) X Cc (fun m => if pb m = true then mI κ (538 + 184 * u + 3 * k) m else 0)) ρ1)) : X_X10_insert_64 G Q 1269 (537 + 184 * u + 3 * k) w (nI (60 * f + q)) 0 (mg (sI (sI (sI (sI (mvC κ (60 * f + q) (60 * f + q + 1) (N f - q)) 270 f (nI (N f + 1))) 271 (60 * f + q) X) 272 (60 * f + q) Cc) 273 (60 * f + q) 1) ρ1) := by
  have hL := hG.1
  have n16 : (16 : Int32) = nI 16 := rfl
  obtain ⟨κa, ea⟩ : ∃ x, x = sI (sI (sI (sI (mvC κ (60 * f + q) (60 * f + q + 1) (N f - q)) 270 f (nI (N f + 1))) 271 (60 * f + q) X) 272 (60 * f + q) Cc) 273 (60 * f + q) 1 := ⟨_, rfl⟩
  have hCa : StC κa := by rw [ea]; exact ((((hC.mv _ _ _).wI _ _ _).wI _ _ _).wI _ _ _).wI _ _ _
  have eav : ∀ m, mI κa (538 + 184 * u + 3 * k) m = mI κ (538 + 184 * u + 3 * k) m := fun m => by
    rw [ea, I_cl (by omega), I_cl (by omega), I_cl (by omega), I_cl (by omega), mvC_I (by omega)]
  unfold adC2 at h
  rw [← ea] at h ⊢
  unfold X_X10_insert_64
  refine Lw.nat 16 (fun i x => x = (nI i, mg (sF κa 274 (16 * (60 * f + q)) (16 * (60 * f + q) + i) (fun j => (fun m => if pb m = true then mI κ (538 + 184 * u + 3 * k) m else 0) (j - 16 * (60 * f + q)))) ρ1)) ?_ 0 (by omega) _ (by rw [Nat.add_zero, sF_0]; rfl)
  rintro K' i x hi rfl hk'
  have hC : StC (sF κa 274 (16 * (60 * f + q)) (16 * (60 * f + q) + i) (fun j => (fun m => if pb m = true then mI κ (538 + 184 * u + 3 * k) m else 0) (j - 16 * (60 * f + q)))) := hCa.wF _ _ _ _
  by_cases hlt : i < 16
  · have st : ∀ v, v = (if pb i = true then mI κ (538 + 184 * u + 3 * k) i else 0) → X_X10_insert_98 G Q K' 1269 (537 + 184 * u + 3 * k) w (nI (60 * f + q)) (nI i) 13 (nI (60 * f + q)) (nI i) v (mg (sF κa 274 (16 * (60 * f + q)) (16 * (60 * f + q) + i) (fun j => (fun m => if pb m = true then mI κ (538 + 184 * u + 3 * k) m else 0) (j - 16 * (60 * f + q)))) ρ1) := fun v hv => by
      simp (disch := omega) only [X_X10_insert_98, hL.1, true_and, nI_1]
      refine c_set hL hC (by omega) (by omega) (hk' _ hlt ?_)
      rw [sF_st (by omega) (by rw [hv]; show _ = if pb (16 * (60 * f + q) + i - 16 * (60 * f + q)) = true then mI κ _ (16 * (60 * f + q) + i - 16 * (60 * f + q)) else 0; rw [show 16 * (60 * f + q) + i - 16 * (60 * f + q) = i by omega])]
      rfl
    simp (disch := omega) only [X_X10_insert_64_s, n16, lT, lF, tT, tF, eF, pF, zT, m1F, vT, cI, true_and, and_true, true_implies, false_implies, not_false_eq_true, not_true_eq_false, forall_eq, implies_true, hp, hL.1, mR_c, hC.1]
    refine ⟨fun e => st 0 (by rw [e]; rfl), fun e => ?_⟩
    have ep : pb i = true := by
      cases h : pb i
      · exact absurd h e
      · rfl
    simp (disch := omega) only [mI_c, mR_c, mJ_c, sI_c, sJ_c, sR_c, hL.1, hL.2.1, hL.2.2, hC.1, hC.2.1, hC.2.2.1, lT, lF, tT, tF, eF, pF, zT, m1F, vT, cI, true_and, and_true, true_implies, false_implies, not_false_eq_true, not_true_eq_false, forall_eq, implies_true, sF_cl, eav]
    exact st _ (by rw [if_pos ep])
  · obtain rfl : i = 16 := by omega
    simp (disch := omega) only [X_X10_insert_64_s, n16, mI_c, mR_c, mJ_c, sI_c, sJ_c, sR_c, hL.1, hL.2.1, hL.2.2, hC.1, hC.2.1, hC.2.2.1, lT, lF, tT, tF, eF, pF, zT, m1F, vT, cI, true_and, and_true, true_implies, false_implies, not_false_eq_true, not_true_eq_false, forall_eq, implies_true, bzT1]
    exact h
/-- what an insertion leaves as it is -/
def inC (u k a j : Nat) : Prop := ¬ (270 ≤ a ∧ a ≤ 274 ∨ a = 1269 ∧ j = 9 ∨ 1271 ≤ a ∧ a ≤ 1274 ∨ a = 537 + 184 * u + 3 * k ∧ j = 9)
def inM (p a j : Nat) : Prop := ¬ (a = 1282 ∧ (j = 26 ∨ j = 69) ∨ 1305 ≤ a ∧ a ≤ 1309 ∨ 1330 ≤ a ∧ a ≤ 1333 ∨ a = 1335 ∧ j = p ∨ a = 1336 ∧ 16 * p ≤ j ∧ j < 16 * p + 16 ∨ a = 1337)
theorem j_insert (hG : Ly G) (hA0 : RelA nn sc n mc rt hc K N1 r1 us κ0 ρ0) (hu : u < 4) (ho0 : mI ρ0 1316 u = 1) (hM : Mid n mc rt K C u κ0 ρ0 N r0 κ ρ) (hl : Log w κ ρ) (hw : w < 120) (hk : k < us u) (hs2 : mI ρ0 1319 (60 * u + k) = 2) (hCl : mI ρ0 1322 (60 * u + k) = C (mI ρ0 1320 (60 * u + k)) (mI ρ0 1321 (60 * u + k))) (nr : ∀ r, r < r0 → ¬ (mI ρ 1305 r = mI ρ0 1320 (60 * u + k) ∧ mI ρ 1306 r = mI ρ0 1321 (60 * u + k))) (ub : mI κ (537 + 184 * u + 3 * k) 10 = nI (bitsN (wtB us mc rt ρ u k) 16)) (nm : ∀ c m, c < 12 → mI ρ0 1322 (60 * u + k) = nI c → m < mc c → wt us mc rt ρ u k m → mI ρ0 1294 (16 * c + m) &&& 2 = 0) :
    (∃ κ' ρ', RunC (fun Q σ => X_X10_insert G Q 1269 (537 + 184 * u + 3 * k) σ) κ 0 κ' ∧ RunM (fun Q σ => X_X12_insert G Q 1282 (nI (60 * u + k)) σ) ρ 0 ρ' ∧ Brk u κ0 ρ0 κ' ρ') ∨
    (∃ κ' ρ' N', RunC (fun Q σ => X_X10_insert G Q 1269 (537 + 184 * u + 3 * k) σ) κ 1 κ' ∧ RunM (fun Q σ => X_X12_insert G Q 1282 (nI (60 * u + k)) σ) ρ 1 ρ' ∧ Mid n mc rt K C u κ0 ρ0 N' (r0 + 1) κ' ρ' ∧ Log (w + 1) κ' ρ' ∧ Eqv (inC u k) κ κ' ∧ Eqv (inM (60 * u + k)) ρ ρ' ∧ mI κ' (537 + 184 * u + 3 * k) 9 = 1 ∧ mI ρ' 1335 (60 * u + k) = 1 ∧ (∀ m, m < 16 → mI ρ' 1336 (16 * (60 * u + k) + m) = if wtB us mc rt ρ u k m = true then 1 else 0) ∧ (∀ r, r < r0 → mI ρ' 1305 r = mI ρ 1305 r ∧ mI ρ' 1306 r = mI ρ 1306 r) ∧ mI ρ' 1305 r0 = mI ρ0 1320 (60 * u + k) ∧ mI ρ' 1306 r0 = mI ρ0 1321 (60 * u + k)) := by
  have hL := hG.1
  have hMM := hG.2.2.2
  have hS := hM.S hA0 hu
  have hU := hM.U hA0 hu
  obtain ⟨⟨hC, hm⟩, fC, fM, hR, hY, hcl⟩ := id hM
  have z0 : ∀ a j, 1316 ≤ a → a ≤ 1325 → mI ρ a j = mI ρ0 a j := fun a j h1 h2 => fM.I (wfM_u h1 h2)
  have zs : ∀ a j, 1283 ≤ a → a ≤ 1304 → mI ρ a j = mI ρ0 a j := fun a j h1 h2 => fM.I (wfM_s h1 h2)
  obtain ⟨c, f, x, c1, c2, c3, c4, c5, c6, c7, c8, c9, c10, c11⟩ := hA0.lv3 hu ho0 hk (Or.inr (Or.inl hs2))
  have ho : mI ρ 1316 u = 1 := (z0 _ _ (by decide) (by decide)).trans ho0
  obtain ⟨h60, o2, o3, o4, o5⟩ := hU.op hu ho
  obtain ⟨t1, t2, t3, t4, t5, t6⟩ := o5 k hk
  have e2 : mI ρ 1320 (60 * u + k) = nI f := (z0 _ _ (by decide) (by decide)).trans c5
  have e3 : mI ρ 1321 (60 * u + k) = nI x := (z0 _ _ (by decide) (by decide)).trans c9
  have e4 : mI ρ 1322 (60 * u + k) = nI c := (z0 _ _ (by decide) (by decide)).trans c2
  rw [e2] at t2
  have t3' := t3
  have t4' := t4
  rw [e3] at t3
  rw [e4] at t4
  have hk60 : k < 60 := by omega
  have hRM := hY.m hR
  have hr7 := hR.le
  have h16 := hS.m16 c1
  have h12 := hS.le
  have hNf := hR.1 f c4
  have uq : ∀ a b, a < us u → b < us u → mI ρ 1320 (60 * u + a) = mI ρ 1320 (60 * u + b) → mI ρ 1321 (60 * u + a) = mI ρ 1321 (60 * u + b) → a = b := fun a b ha hb e1 e2 => by
    rw [z0 _ _ (by decide) (by decide), z0 _ _ (by decide) (by decide)] at e1 e2
    exact hA0.2.2.2.2.2.2.2.2.2.2.2.2.1 u hu ho0 a b ha hb e1 e2
  have nr' : ∀ r, r < r0 → ¬ (mI ρ 1305 r = nI f ∧ mI ρ 1306 r = nI x) := fun r hr => by
    have := nr r hr
    rw [c5, c9] at this
    exact this
  obtain ⟨ρ9, run9, hm9, fr9, g1, g2⟩ := m_insHead hMM hm hS hu h60 o3 hk c1 e4 uq
  have zr : ∀ a j, a ≠ 1336 → a ≠ 1337 → mI ρ9 a j = mI ρ a j := fun a j h1 h2 => fr9.I (by omega)
  have e26 : mI ρ9 1282 26 = nI r0 := (zr _ _ (by decide) (by decide)).trans hR.2.1
  have hS9 : RelS sc n mc rt hc κ ρ9 := hS.fr Eqv.rf (fr9.mo fun a j z => by simp only [sM] at z; omega)
  have hRM9 : RowsM n r0 ρ9 := hRM.fr (zr _ _ (by decide) (by decide)) (fun a j h1 h2 => zr _ _ (by omega) (by omega))
  have ecnt : cnt (fun r => mI ρ9 1305 r) (nI f) r0 = N f := by
    rw [← hR.2.2.2.2.2.2.2 f c4]
    exact cnt_cg r0 (fun r _ => zr _ _ (by decide) (by decide))
  have e92 : mI ρ9 1320 (60 * u + k) = nI f := (zr _ _ (by decide) (by decide)).trans e2
  have e93 : mI ρ9 1321 (60 * u + k) = nI x := (zr _ _ (by decide) (by decide)).trans e3
  have e94 : mI ρ9 1322 (60 * u + k) = nI c := (zr _ _ (by decide) (by decide)).trans e4
  have e920 : mI ρ9 1320 (60 * u + k) = mI ρ0 1320 (60 * u + k) := e92.trans c5.symm
  have fM9 : Eqv wfM ρ0 ρ9 := fM.tr (fr9.mo fun a j z h => z (by omega))
  have l9 : Log w κ ρ9 := hl.fr Eqv.rf (fr9.mo fun a j z => by simp only [wM] at z; omega)
  have n60 : (60 : Int32) = nI 60 := rfl
  have full : ∀ ρ1 (Q : Int32 → Mem → Prop), X_X10_keepsRules G (fun w7 s6 => ((w7 = 0 → Q (0 : Int32) s6) ∧ (¬ w7 = 0 → gT G (mR s6 1269 0) = 6 ∧ X_X5_add G (fun w10 s9 => X_X10_insert_64 G Q 1269 (537 + 184 * u + 3 * k) ((nI (bitsN (wtB us mc rt ρ u k) 16)) ^^^ (-1 : Int32)) w10 (0 : Int32) s9) (mR s6 1269 0) (mI s6 (537 + 184 * u + 3 * k) 2) (mI s6 (537 + 184 * u + 3 * k) 3) (mI s6 (537 + 184 * u + 3 * k) 4) s6))) 1269 (537 + 184 * u + 3 * k) ((nI (bitsN (wtB us mc rt ρ u k) 16)) ^^^ (-1 : Int32)) (mg κ ρ1) → N f < 60 → X_X10_insert G Q 1269 (537 + 184 * u + 3 * k) (mg κ ρ1) := fun ρ1 Q h hlt => by
    simp (disch := omega) only [X_X10_insert, X_X10_insert_0, X_X5_isFull_16, X_X5_isFull_0, X_X5_isFull, n60, mI_c, mR_c, mJ_c, sI_c, sJ_c, sR_c, hL.1, hL.2.1, hL.2.2, hC.1, hC.2.1, hC.2.2.1, lT, lF, tT, tF, eF, pF, zT, m1F, vT, cI, true_and, and_true, true_implies, false_implies, not_false_eq_true, not_true_eq_false, forall_eq, implies_true, t2, hNf.1, bzT0, ub]
    exact h
  by_cases hfull : N f < 60
  · -- there is room
    have ev9 : ∀ m, m < mc c → mI ρ9 1337 (0 + m) = if wtB us mc rt ρ u k m = true then 0 else mI ρ 1324 (16 * (60 * u + k) + m) := fun m hm => by
      rw [Nat.zero_add]; exact g2 m (by omega)
    have hpb : ∀ m, m < 16 → ((((nI (bitsN (wtB us mc rt ρ u k) 16)) ^^^ (-1 : Int32)) >>> (nI m &&& 31) &&& (1 : Int32)) = 0) = ((!wtB us mc rt ρ u k m) = false) := fun m hm => by
      rw [tbn hm, bitsN_tb 16 hm]
      cases wtB us mc rt ρ u k m <;> simp
    have r9 : ∀ m, m < mc c → ∀ v, rul r0 rt ρ9 f (nI x) c m v = rul r0 rt ρ f (nI x) c m v := fun m hm v => rul_fr hS hRM (fr9.mo fun a j z => by simp only [sM] at z; omega) (fun a j h1 h2 => zr _ _ (by omega) (by omega)) c1 hm c4
    have roff : ∀ m, m < mc c → wtB us mc rt ρ u k m = true → rul r0 rt ρ f (nI x) c m 0 = -1 := fun m hm h => by
      have hw := dP_o h
      have n2 := nm c m (by omega) c2 hm hw
      rw [← zs _ _ (by decide) (by decide)] at n2
      obtain ⟨c', t, k', a1, a2, a3, a4, -⟩ := hw
      have ecc : c' = c := (eI (by omega) (by omega)).mp (a2.symm.trans e4)
      rw [ecc] at a4
      exact rul_off hS c1 hm a4 n2
    by_cases hbad : ∃ m, m < mc c ∧ rul r0 rt ρ f (nI x) c m (if wtB us mc rt ρ u k m = true then 0 else mI ρ 1324 (16 * (60 * u + k) + m)) ≠ -1
    · -- a rule is broken
      obtain ⟨m0, ⟨b1, b2⟩, b3⟩ := pk_least _ hbad
      have hwf : wtB us mc rt ρ u k m0 = false := by
        cases h : wtB us mc rt ρ u k m0
        · rfl
        · rw [h, if_pos rfl] at b2; exact absurd (roff m0 b1 h) b2
      have b2' := b2
      rw [hwf, if_neg (by decide)] at b2
      refine Or.inl ⟨brkC κ (537 + 184 * u + 3 * k) 1 (nI m0) (rul r0 rt ρ f (nI x) c m0 (mI ρ 1324 (16 * (60 * u + k) + m0))), sI (sI (endM (sI (sI ρ9 1282 57 (nI m0)) 1282 58 (rul r0 rt ρ f (nI x) c m0 (mI ρ 1324 (16 * (60 * u + k) + m0)))) (60 * u + k) 1) 1282 67 (nI m0)) 1282 68 (rul r0 rt ρ f (nI x) c m0 (mI ρ 1324 (16 * (60 * u + k) + m0))), fun ρ1 Q hQ => ?_, fun κ1 Q hQ => ?_, ?_⟩
      · refine full ρ1 Q ?_ hfull
        refine c_keeps0 hG hC hS hR hY hu hk60 c1 c3 t4 t3 hpb b1 (fun m m1 m2 => ?_) (by rw [hwf]; rfl) (by rw [(t6 m0 (by omega)).1]; exact b2) ?_
        · have := fun h => b3 m m1 ⟨by omega, h⟩
          rw [notB m2] at this
          rw [(t6 m (by omega)).1]
          exact Classical.byContradiction this
        · rw [(t6 m0 (by omega)).1]
          exact brT rfl hQ
      · refine run9 κ1 Q (m_ins96 hMM hm9 hR.le e26 (by omega) e92 (fun K' => ?_))
        rw [ecnt]
        simp (disch := omega) only [X_X12_insert_96_s, n60, mI_m, mR_m, hMM.1, hMM.2, hm9.1, hm9.2, lT, lF, tT, tF, eF, pF, zT, m1F, vT, cI, true_and, and_true, true_implies, false_implies, not_false_eq_true, not_true_eq_false, forall_eq, implies_true, e26, e92, e93]
        refine m_broken1 (lo := 0) hG hm9 hS9 hRM9 c1 c3 b1 (by decide) (by simp only [hMM.2]) (by simp only [hMM.2]; decide) (by decide) ev9 (by rw [r9 m0 b1]; exact b2') (fun m m1 => ?_) ?_
        · rw [r9 m (by omega)]
          exact Classical.byContradiction (fun h => b3 m m1 ⟨by omega, h⟩)
        · rw [r9 m0 b1, hwf, if_neg (by decide)]
          refine br1 (m_ends1 hMM ((hm9.wI _ _ _).wI _ _ _) (by omega) ⟨bz0, ?_⟩)
          have e57 : mI (sI (sI ρ9 1282 57 (nI m0)) 1282 58 (rul r0 rt ρ f (nI x) c m0 (mI ρ 1324 (16 * (60 * u + k) + m0)))) 1282 57 = nI m0 := by rw [I_sl (by decide), I_is]
          have e58 : mI (sI (sI ρ9 1282 57 (nI m0)) 1282 58 (rul r0 rt ρ f (nI x) c m0 (mI ρ 1324 (16 * (60 * u + k) + m0)))) 1282 58 = rul r0 rt ρ f (nI x) c m0 (mI ρ 1324 (16 * (60 * u + k) + m0)) := I_is _ _ _ _
          rw [e57, e58]
          exact hQ
      · have := Brk.ends1 (κ0 := κ0) (ρ0 := ρ0) (u := u) (k := k) hC ((hm9.wI 1282 57 (nI m0)).wI 1282 58 (rul r0 rt ρ f (nI x) c m0 (mI ρ 1324 (16 * (60 * u + k) + m0)))) fC ((fM9.sI (fun h => h (Or.inl ⟨rfl, by omega⟩)) _).sI (fun h => h (Or.inl ⟨rfl, by omega⟩)) _) (l9.fr Eqv.rf ((Eqv.wI (by simp only [wM]; omega) _).sI (by simp only [wM]; omega) _)) (by omega) (by rw [I_cl (by decide), I_cl (by decide), zr _ _ (by decide) (by decide)]; exact t3') (by rw [I_cl (by decide), I_cl (by decide), zr _ _ (by decide) (by decide)]; exact t4')
        have e57 : mI (sI (sI ρ9 1282 57 (nI m0)) 1282 58 (rul r0 rt ρ f (nI x) c m0 (mI ρ 1324 (16 * (60 * u + k) + m0)))) 1282 57 = nI m0 := by rw [I_sl (by decide), I_is]
        have e58 : mI (sI (sI ρ9 1282 57 (nI m0)) 1282 58 (rul r0 rt ρ f (nI x) c m0 (mI ρ 1324 (16 * (60 * u + k) + m0)))) 1282 58 = rul r0 rt ρ f (nI x) c m0 (mI ρ 1324 (16 * (60 * u + k) + m0)) := I_is _ _ _ _
        rw [e57, e58] at this
        exact this
    · -- the row comes
      have good : ∀ m, m < mc c → rul r0 rt ρ f (nI x) c m (if wtB us mc rt ρ u k m = true then 0 else mI ρ 1324 (16 * (60 * u + k) + m)) = -1 := fun m hm => Classical.byContradiction (fun h => hbad ⟨m, hm, h⟩)
      have hX : ∀ i, i < N f → mI κ 271 (60 * f + i) ≠ nI x := fun i hi e => by
        obtain ⟨r, r1, r2, r3, -⟩ := hR.2.2.2.2.1 f c4 i hi
        exact nr' r r1 ⟨r2, r3.symm.trans e⟩
      obtain ⟨q, q1, q2, q3⟩ := hR.place c4 hX
      have hr720 : r0 < 720 := by rw [hR.2.2.1]; exact sum_lt (fun g hg => (hR.1 g hg).2) c4 hfull
      obtain ⟨κe, eκe⟩ : ∃ y, y = adC2 κ f q (N f) (537 + 184 * u + 3 * k) (nI x) (nI c) (fun m => if (!wtB us mc rt ρ u k m) = true then mI κ (538 + 184 * u + 3 * k) m else 0) := ⟨_, rfl⟩
      obtain ⟨ρe, eρe⟩ : ∃ y, y = apM ρ9 (60 * u + k) r0 (nI f) (nI x) (nI c) := ⟨_, rfl⟩
      have hCe : StC κe := by rw [eκe]; exact ((((((hC.mv _ _ _).wI _ _ _).wI _ _ _).wI _ _ _).wI _ _ _).wF _ _ _ _).wI _ _ _
      have hme : StM ρe := by rw [eρe]; exact ((((((hm9.wI _ _ _).wI _ _ _).wI _ _ _).wI _ _ _).wF _ _ _ _).wI _ _ _).wI _ _ _
      -- what stays
      have fCe : Eqv (fun a j => ¬ (270 ≤ a ∧ a ≤ 274 ∨ a = 537 + 184 * u + 3 * k ∧ j = 9)) κ κe := by
        rw [eκe]
        unfold adC2
        refine (((((Eqv.mv _ _ _ (fun a j h1 h2 h => h (by omega))).sI ?_ _).sI ?_ _).sI ?_ _).sI ?_ _).sF ?_ |>.sI ?_ _
        all_goals first | exact fun h => h (by omega) | exact fun j _ _ h => h (by omega)
      have fMe : Eqv (fun a j => ¬ (a = 1282 ∧ j = 26 ∨ 1305 ≤ a ∧ a ≤ 1309 ∨ a = 1335 ∧ j = 60 * u + k)) ρ9 ρe := by
        rw [eρe]
        unfold apM
        refine ((((((Eqv.wI ?_ _).sI ?_ _).sI ?_ _).sI ?_ _).sF ?_).sI ?_ _).sI ?_ _
        all_goals first | exact fun h => h (by omega) | exact fun j _ _ h => h (by omega)
      -- the rows
      have rwx : ∀ j i, j ≠ 60 * f + q → rwE κ (mvC κ (60 * f + q) (60 * f + q + 1) (N f - q)) j i → rwE κ κe j i := fun j i hj h => by
        obtain ⟨h1, h2, h3, h4⟩ := h
        rw [eκe]
        unfold adC2
        refine ⟨?_, ?_, ?_, fun m hm => ?_⟩
        · rw [I_cl (by omega), sF_cl (by omega), I_cl (by decide), I_cl (by decide), I_sl hj, I_cl (by decide)]; exact h1
        · rw [I_cl (by omega), sF_cl (by omega), I_cl (by decide), I_sl hj, I_cl (by decide), I_cl (by decide)]; exact h2
        · rw [I_cl (by omega), sF_cl (by omega), I_sl hj, I_cl (by decide), I_cl (by decide), I_cl (by decide)]; exact h3
        · rw [I_cl (by omega), sF_out (by omega), I_cl (by decide), I_cl (by decide), I_cl (by decide), I_cl (by decide)]; exact h4 m hm
      have yR : RelR (upN N f (N f + 1)) (r0 + 1) κe ρe := by
        refine hR.ins (X := nI x) (Cc := nI c) (V := 1) (vs := fun m => if wtB us mc rt ρ u k m = true then 0 else mI ρ 1324 (16 * (60 * u + k) + m)) c4 hfull q1 ?_ (fun g g1 g2 => ?_) (fun g g1 g2 i hi => rwx _ _ (by omega) (mvC_out (by omega))) (fun i hi => rwx _ _ (by omega) (mvC_out (by omega))) (fun i h1 h2 => rwx _ _ (by omega) ?_) ?_ q2 q3 ?_ (fun r hr => ?_) ?_
        · rw [eκe]; unfold adC2; rw [I_cl (by omega), sF_cl (by decide), I_cl (by decide), I_cl (by decide), I_cl (by decide), I_is]
        · rw [eκe]; unfold adC2; rw [I_cl (by omega), sF_cl (by decide), I_cl (by decide), I_cl (by decide), I_cl (by decide), I_sl g2, mvC_I (Or.inl (by decide))]
        · have := mvC_in (κ := κ) (a := 60 * f + q) (b := 60 * f + q + 1) (n := N f - q) (i := i - q) (by omega)
          rw [show 60 * f + q + 1 + (i - q) = 60 * f + (i + 1) by omega, show 60 * f + q + (i - q) = 60 * f + i by omega] at this
          exact this
        · rw [eκe]; unfold adC2
          refine ⟨?_, ?_, ?_, fun m hm => ?_⟩
          · rw [I_cl (by omega), sF_cl (by decide), I_cl (by decide), I_cl (by decide), I_is]
          · rw [I_cl (by omega), sF_cl (by decide), I_cl (by decide), I_is]
          · rw [I_cl (by omega), sF_cl (by decide), I_is]
          · rw [I_cl (by omega), sF_in (by omega) (by omega)]
            show (if (!wtB us mc rt ρ u k (16 * (60 * f + q) + m - 16 * (60 * f + q))) = true then mI κ (538 + 184 * u + 3 * k) (16 * (60 * f + q) + m - 16 * (60 * f + q)) else 0) = if _ then _ else _
            rw [show 16 * (60 * f + q) + m - 16 * (60 * f + q) = m by omega, (t6 m hm).1]
            cases wtB us mc rt ρ u k m <;> rfl
        · rw [eρe]; unfold apM; rw [I_cl (by decide), I_is]
        · rw [eρe]; unfold apM
          refine ⟨?_, ?_, ?_, ?_, fun m hm => ?_⟩
          · rw [I_cl (by decide), I_cl (by decide), sF_cl (by decide), I_cl (by decide), I_cl (by decide), I_cl (by decide), I_sl (by omega)]; exact zr _ _ (by decide) (by decide)
          · rw [I_cl (by decide), I_cl (by decide), sF_cl (by decide), I_cl (by decide), I_cl (by decide), I_sl (by omega), I_cl (by decide)]; exact zr _ _ (by decide) (by decide)
          · rw [I_cl (by decide), I_cl (by decide), sF_cl (by decide), I_cl (by decide), I_sl (by omega), I_cl (by decide), I_cl (by decide)]; exact zr _ _ (by decide) (by decide)
          · rw [I_cl (by decide), I_cl (by decide), sF_cl (by decide), I_sl (by omega), I_cl (by decide), I_cl (by decide), I_cl (by decide)]; exact zr _ _ (by decide) (by decide)
          · rw [I_cl (by decide), I_cl (by decide), sF_out (by omega), I_cl (by decide), I_cl (by decide), I_cl (by decide), I_cl (by decide)]; exact zr _ _ (by decide) (by decide)
        · rw [eρe]; unfold apM
          refine ⟨?_, ?_, ?_, ?_, fun m hm => ?_⟩
          · rw [I_cl (by decide), I_cl (by decide), sF_cl (by decide), I_cl (by decide), I_cl (by decide), I_cl (by decide), I_is]
          · rw [I_cl (by decide), I_cl (by decide), sF_cl (by decide), I_cl (by decide), I_cl (by decide), I_is]
          · rw [I_cl (by decide), I_cl (by decide), sF_cl (by decide), I_cl (by decide), I_is]
          · rw [I_cl (by decide), I_cl (by decide), sF_cl (by decide), I_is]
          · rw [I_cl (by decide), I_cl (by decide), sF_in (by omega) (by omega)]
            show mI ρ9 1337 (16 * r0 + m - 16 * r0) = _
            rw [show 16 * r0 + m - 16 * r0 = m by omega]
            exact g2 m hm
      -- of the reference alone
      have old : ∀ r, r < r0 → mI ρe 1305 r = mI ρ 1305 r ∧ mI ρe 1306 r = mI ρ 1306 r ∧ mI ρe 1307 r = mI ρ 1307 r ∧ ∀ m, m < 16 → mI ρe 1309 (16 * r + m) = mI ρ 1309 (16 * r + m) := fun r hr => by
        rw [eρe]; unfold apM
        refine ⟨?_, ?_, ?_, fun m hm => ?_⟩
        · rw [I_cl (by decide), I_cl (by decide), sF_cl (by decide), I_cl (by decide), I_cl (by decide), I_cl (by decide), I_sl (by omega)]; exact zr _ _ (by decide) (by decide)
        · rw [I_cl (by decide), I_cl (by decide), sF_cl (by decide), I_cl (by decide), I_cl (by decide), I_sl (by omega), I_cl (by decide)]; exact zr _ _ (by decide) (by decide)
        · rw [I_cl (by decide), I_cl (by decide), sF_cl (by decide), I_cl (by decide), I_sl (by omega), I_cl (by decide), I_cl (by decide)]; exact zr _ _ (by decide) (by decide)
        · rw [I_cl (by decide), I_cl (by decide), sF_out (by omega), I_cl (by decide), I_cl (by decide), I_cl (by decide), I_cl (by decide)]; exact zr _ _ (by decide) (by decide)
      have nw : mI ρe 1305 r0 = nI f ∧ mI ρe 1306 r0 = nI x ∧ mI ρe 1307 r0 = nI c ∧ ∀ m, m < 16 → mI ρe 1309 (16 * r0 + m) = if wtB us mc rt ρ u k m = true then 0 else mI ρ 1324 (16 * (60 * u + k) + m) := by
        rw [eρe]; unfold apM
        refine ⟨?_, ?_, ?_, fun m hm => ?_⟩
        · rw [I_cl (by decide), I_cl (by decide), sF_cl (by decide), I_cl (by decide), I_cl (by decide), I_cl (by decide), I_is]
        · rw [I_cl (by decide), I_cl (by decide), sF_cl (by decide), I_cl (by decide), I_cl (by decide), I_is]
        · rw [I_cl (by decide), I_cl (by decide), sF_cl (by decide), I_cl (by decide), I_is]
        · rw [I_cl (by decide), I_cl (by decide), sF_in (by omega) (by omega)]
          show mI ρ9 1337 (16 * r0 + m - 16 * r0) = _
          rw [show 16 * r0 + m - 16 * r0 = m by omega]
          exact g2 m hm
      have sme : Eqv sM ρ ρe := (fr9.mo fun a j z => by simp only [sM] at z; omega).tr (fMe.mo fun a j z => by simp only [sM] at z; omega)
      have hSe : RelS sc n mc rt hc κe ρe := hS.fr (fCe.mo fun a j z => by have := hS.s2; simp only [sCc] at z; omega) sme
      have hRMe : RowsM n (r0 + 1) ρe := ⟨yR.2.1, yR.le, yR.2.2.2.2.2.2.1, fun r hr => by
        by_cases e : r = r0
        · rw [e]; exact ⟨c, c1, nw.2.2.1⟩
        · rw [(old r (by omega)).2.2.1]; exact hRM.2.2.2 r (by omega)⟩
      have yY : RowsW n (r0 + 1) mc rt K ρe := by
        refine RowsW.upd (r := r0) (f := f) (c := c) (x := x) hS hSe hY hRMe sme (by omega) (fun r2 h1 h2 => by omega) (fun r2 h => by omega) (fun r2 h1 h2 => old r2 h1) (fun h => by omega) c4 nw.1 c1 nw.2.2.1 c3 c6 c7 nw.2.1 (fun m m1 m2 => ?_) (fun m m1 => ?_)
        · rw [nw.2.2.2 m m2]
          have := (c10 m m1 m2).1
          rw [← z0 _ _ (by decide) (by decide)] at this
          rw [this]
          cases wtB us mc rt ρ u k m <;> rfl
        · rw [nw.2.2.2 m (by omega), rul_eq hS sme c1 m1 c4 (fun r h1 h2 => ⟨by omega, (old r h1).1, (old r h1).2.1, (old r h1).2.2.1, (old r h1).2.2.2 m (by omega), hRM.2.2.2 r h1⟩) (fun r h1 h2 => ?_)]
          · exact good m m1
          · have hr : r < r0 := by
              by_cases e : r = r0
              · rw [e] at h2; exact absurd ⟨nw.1, nw.2.1⟩ h2
              · omega
            exact ⟨hr, (old r hr).1, (old r hr).2.1, (old r hr).2.2.1, (old r hr).2.2.2 m (by omega), hRM.2.2.2 r hr⟩
      have le : Log w κe ρe := l9.fr (fCe.mo fun a j z => by simp only [wC] at z; omega) (fMe.mo fun a j z => by simp only [wM] at z; omega)
      have ze : ∀ a, 1321 ≤ a → a ≤ 1322 → mI ρe a (60 * u + k) = mI ρ a (60 * u + k) := fun a h1 h2 => (fMe.I (by omega)).trans (zr _ _ (by omega) (by omega))
      obtain ⟨κ', ρ', d1, d2, d3, d4, d5, d6, d7⟩ := j_note hG hCe hme le hw hu hk60 (by rw [fCe.I (by omega), ze _ (by decide) (by decide)]; exact t3') (by rw [fCe.I (by omega), ze _ (by decide) (by decide)]; exact t4') 0 0
      have y5 : ∀ a j, 1305 ≤ a → a ≤ 1309 → mI ρ' a j = mI ρe a j := fun a j h1 h2 => d6.I (fun h => by omega)
      refine Or.inr ⟨κ', ρ', upN N f (N f + 1), fun ρ1 Q hQ => ?_, fun κ1 Q hQ => ?_, ⟨⟨d3, d4⟩, ?_, ?_, ?_, ?_, fun r hr => ?_⟩, d7, ?_, ?_, ?_, ?_, fun m hm => ?_, fun r hr => ?_, ?_, ?_⟩
      · refine full ρ1 Q ?_ hfull
        refine c_keeps1 hG hC hS hR hY hu hk60 c1 c3 t4 t3 hpb (fun m m1 m2 => ?_) (br1 ?_)
        · have := good m m1
          rw [notB m2] at this
          rw [(t6 m (by omega)).1]
          exact this
        · simp (disch := omega) only [mI_c, mR_c, mJ_c, sI_c, sJ_c, sR_c, hL.1, hL.2.1, hL.2.2, hC.1, hC.2.1, hC.2.2.1, lT, lF, tT, tF, eF, pF, zT, m1F, vT, cI, true_and, and_true, true_implies, false_implies, not_false_eq_true, not_true_eq_false, forall_eq, implies_true, t2, t3, t4]
          refine c_add hL hC c4 hNf.1 hfull q1 q2 q3 ?_
          refine c_insTail hG hC hu hk60 c4 hfull q1 hpb ?_
          rw [← eκe]
          exact d1 ρ1 _ hQ
      · refine run9 κ1 Q (m_ins96 hMM hm9 hR.le e26 (by omega) e92 (fun K' => ?_))
        rw [ecnt]
        simp (disch := omega) only [X_X12_insert_96_s, n60, mI_m, mR_m, hMM.1, hMM.2, hm9.1, hm9.2, lT, lF, tT, tF, eF, pF, zT, m1F, vT, cI, true_and, and_true, true_implies, false_implies, not_false_eq_true, not_true_eq_false, forall_eq, implies_true, e26, e92, e93]
        refine m_broken0 (lo := 0) hG hm9 hS9 hRM9 c1 c3 (by decide) (by simp only [hMM.2]) (by simp only [hMM.2]; decide) (by decide) ev9 (fun m m1 => by rw [r9 m m1]; exact good m m1) (br0 ?_)
        have ap := m_append (κ1 := κ1) (p := 60 * u + k) (Cc := nI c) (Q := Q) hMM hm9 hr720 e26 (by omega) (by
          rw [e92, e93, ← eρe]
          exact d2 κ1 _ ⟨bz1, hQ⟩)
        rw [e92, e93] at ap
        simp (disch := omega) only [mI_m, mR_m, sI_m, hMM.1, hMM.2, hm9.1, hm9.2, lT, lF, tT, tF, eF, pF, zT, m1F, vT, cI, true_and, and_true, true_implies, false_implies, not_false_eq_true, not_true_eq_false, forall_eq, implies_true, I_is, I_cl, I_sl, J_is, J_cl, J_sl, R_is, R_cl, R_sl, mI_sJ, mI_sR, mJ_sI, mJ_sR, mR_sI, mR_sJ, e26, e92, e93]
        exact ap
      · refine (fC.tr (fCe.mo fun a j z h => z ?_)).tr (d5.mo fun a j z h => z ?_)
        · rcases h with h | h
          · exact Or.inl h
          · exact Or.inr (Or.inr (Or.inr ⟨k, hk60, h.1, Or.inl h.2⟩))
        · rcases h with h | h
          · exact Or.inr (Or.inl ⟨h.1, by omega, by omega⟩)
          · exact Or.inr (Or.inr (Or.inl h))
      · refine (fM9.tr (fMe.mo fun a j z h => z (by omega))).tr (d6.mo fun a j z h => z (by omega))
      · exact yR.fr (d5.mo fun a j z h => by simp only [rC] at z; omega) (d6.mo fun a j z h => by simp only [rM] at z; omega)
      · exact yY.fr hSe (d6.mo fun a j z h => by simp only [rM] at z; omega) (d6.mo fun a j z h => by simp only [sM] at z; omega)
      · rw [y5 _ _ (by decide) (by decide), y5 _ _ (by decide) (by decide), y5 _ _ (by decide) (by decide)]
        by_cases e : r = r0
        · rw [e, nw.1, nw.2.1, nw.2.2.1, ← c2, ← c5, ← c9]; exact hCl
        · obtain ⟨o1, o2, o3, -⟩ := old r (by omega)
          rw [o1, o2, o3]; exact hcl r (by omega)
      · exact (fCe.mo fun a j z h => z (by omega)).tr (d5.mo fun a j z h => z (by omega))
      · exact ((fr9.mo fun a j z h => z (by omega)).tr (fMe.mo fun a j z h => z (by omega))).tr (d6.mo fun a j z h => z (by omega))
      · rw [d5.I (fun h => by omega), eκe]; unfold adC2; exact I_is _ _ _ _
      · rw [d6.I (fun h => by omega), eρe]; unfold apM; exact I_is _ _ _ _
      · rw [d6.I (fun h => by omega), fMe.I (fun h => by omega)]; exact g1 m hm
      · rw [y5 _ _ (by decide) (by decide), y5 _ _ (by decide) (by decide)]
        exact ⟨(old r hr).1, (old r hr).2.1⟩
      · rw [y5 _ _ (by decide) (by decide), nw.1, c5]
      · rw [y5 _ _ (by decide) (by decide), nw.2.1, c9]
  · -- no room
    have e60 : N f = 60 := by omega
    refine Or.inl ⟨brkC κ (537 + 184 * u + 3 * k) 5 (-1) (-1), endM ρ9 (60 * u + k) 5, fun ρ1 Q hQ => ?_, fun κ1 Q hQ => ?_, ?_⟩
    · show X_X10_insert G Q 1269 (537 + 184 * u + 3 * k) (mg κ ρ1)
      simp (disch := omega) only [X_X10_insert, X_X10_insert_0, X_X5_isFull_16, X_X5_isFull_0, X_X5_isFull, n60, mI_c, mR_c, mJ_c, sI_c, sJ_c, sR_c, hL.1, hL.2.1, hL.2.2, hC.1, hC.2.1, hC.2.2.1, lT, lF, tT, tF, eF, pF, zT, m1F, vT, cI, true_and, and_true, true_implies, false_implies, not_false_eq_true, not_true_eq_false, forall_eq, implies_true, t2, hNf.1, e60, bzT1, o0F]
      exact c_breakOff hL hu hk60 ⟨bz0, hQ⟩
    · refine run9 κ1 Q (m_ins96 hMM hm9 hR.le e26 (by omega) e92 (fun K' => ?_))
      rw [ecnt, e60]
      simp (disch := omega) only [X_X12_insert_96_s, n60, mI_m, mR_m, hMM.1, hMM.2, hm9.1, hm9.2, lT, lF, tT, tF, eF, pF, zT, m1F, vT, cI, true_and, and_true, true_implies, false_implies, not_false_eq_true, not_true_eq_false, forall_eq, implies_true, e26]
      exact m_ends hMM hm9 (by omega) (by decide) ⟨bz0, hQ⟩
    · exact Brk.ends hC hm9 fC fM9 l9 (by omega) (by rw [zr _ _ (by decide) (by decide)]; exact t3') (by rw [zr _ _ (by decide) (by decide)]; exact t4') (by decide)
end INSERT2
