section CHANGE2
variable {G : Lay} {nn sc n r0 r1 w : Nat} {mc rt hc K N N1 us : Nat → Nat} {κ κ' κ0 ρ ρ' ρ0 κ1 ρ1 : Mem} {u k f : Nat} {l L : List Nat} {st : Nat → Int32} {rk : Nat → Nat} {C : Int32 → Int32 → Int32}
/-- there is a row for an object -/
def hasR (r0 : Nat) (ρ : Mem) (F X : Int32) : Prop := ∃ r, r < r0 ∧ mI ρ 1305 r = F ∧ mI ρ 1306 r = X
theorem j_change (hG : Ly G) (hA0 : RelA nn sc n mc rt hc K N1 r1 us κ0 ρ0) (hu : u < 4) (ho0 : mI ρ0 1316 u = 1) (hM : Mid n mc rt K C u κ0 ρ0 N r0 κ ρ) (hl : Log w κ ρ) (hw : w < 120) (hk : k < us u) (hs : mI ρ0 1319 (60 * u + k) = 1 ∨ mI ρ0 1319 (60 * u + k) = 2) (hCl : mI ρ0 1322 (60 * u + k) = C (mI ρ0 1320 (60 * u + k)) (mI ρ0 1321 (60 * u + k))) {pb : Nat → Bool} (hpb : mI ρ0 1319 (60 * u + k) = 2 ∧ (∀ m, m < 16 → pb m = ofB ρ (60 * u + k) m) ∨ mI ρ0 1319 (60 * u + k) = 1 ∧ ∀ m, m < 16 → pb m = chgM ρ (60 * u + k) m) :
    (∃ κ' ρ', RunC (fun Q σ => X_X10_change G Q 1269 (537 + 184 * u + 3 * k) (nI (bitsN pb 16)) σ) κ 0 κ' ∧ RunM (fun Q σ => X_X12_change G Q 1282 (nI (60 * u + k)) (nI (cntB pb 16)) σ) ρ 0 ρ' ∧ Brk u κ0 ρ0 κ' ρ') ∨
    (∃ κ' ρ', RunC (fun Q σ => X_X10_change G Q 1269 (537 + 184 * u + 3 * k) (nI (bitsN pb 16)) σ) κ 1 κ' ∧ RunM (fun Q σ => X_X12_change G Q 1282 (nI (60 * u + k)) (nI (cntB pb 16)) σ) ρ 1 ρ' ∧ Mid n mc rt K C u κ0 ρ0 N r0 κ' ρ' ∧ Log (w + 1) κ' ρ' ∧ Eqv (chC u k) κ κ' ∧ Eqv chM ρ ρ' ∧ mI κ' (537 + 184 * u + 3 * k) 9 = 1 ∧ hasR r0 ρ' (mI ρ0 1320 (60 * u + k)) (mI ρ0 1321 (60 * u + k))) := by
  have hL := hG.1
  have hMM := hG.2.2.2
  have hS := hM.S hA0 hu
  have hU := hM.U hA0 hu
  obtain ⟨⟨hC, hm⟩, fC, fM, hR, hY, hcl⟩ := id hM
  have z0 : ∀ a j, 1316 ≤ a → a ≤ 1325 → mI ρ a j = mI ρ0 a j := fun a j h1 h2 => fM.I (wfM_u h1 h2)
  obtain ⟨c, f, x, c1, c2, c3, c4, c5, c6, c7, c8, c9, c10, c11⟩ := hA0.lv3 hu ho0 hk (by rcases hs with h | h; exact Or.inl h; exact Or.inr (Or.inl h))
  have ho : mI ρ 1316 u = 1 := (z0 _ _ (by decide) (by decide)).trans ho0
  obtain ⟨h60, o2, o3, o4, o5⟩ := hU.op hu ho
  obtain ⟨t1, t2, t3, t4, t5, t6⟩ := o5 k hk
  have e1 : mI ρ 1319 (60 * u + k) = mI ρ0 1319 (60 * u + k) := z0 _ _ (by decide) (by decide)
  have e2 : mI ρ 1320 (60 * u + k) = nI f := (z0 _ _ (by decide) (by decide)).trans c5
  have e3 : mI ρ 1321 (60 * u + k) = nI x := (z0 _ _ (by decide) (by decide)).trans c9
  have e4 : mI ρ 1322 (60 * u + k) = nI c := (z0 _ _ (by decide) (by decide)).trans c2
  rw [e2] at t2
  have t3' := t3
  have t4' := t4
  rw [e3] at t3
  rw [e4] at t4
  have hk60 : k < 60 := by omega
  have hRM := hY.m hR
  have hr7 := hR.le
  have h16 := hS.m16 c1
  have h12 := hS.le
  have hNf := (hR.1 f c4).2
  have z16 : ∀ m, mc c ≤ m → m < 16 → mI ρ 1324 (16 * (60 * u + k) + m) = 0 ∧ mI ρ 1325 (16 * (60 * u + k) + m) = 0 := fun m m1 m2 => by
    rw [z0 _ _ (by decide) (by decide), z0 _ _ (by decide) (by decide)]; exact c10 m m1 m2
  have hpb' : mI ρ 1319 (60 * u + k) = 2 ∧ (∀ m, m < 16 → pb m = ofB ρ (60 * u + k) m) ∨ mI ρ 1319 (60 * u + k) = 1 ∧ (∀ m, m < 16 → pb m = chgM ρ (60 * u + k) m) ∧ ∀ m, mc c ≤ m → m < 16 → pb m = false := by
    rcases hpb with ⟨a1, a2⟩ | ⟨a1, a2⟩
    · exact Or.inl ⟨e1.trans a1, a2⟩
    · exact Or.inr ⟨e1.trans a1, a2, fun m m1 m2 => by
        rw [a2 m m2]
        exact decide_eq_false (fun h => h (by rw [(z16 m m1 m2).1, (z16 m m1 m2).2]))⟩
  have n16 : (16 : Int32) = nI 16 := rfl
  -- stale
  have stale : ((∀ ρ1 (Q : Int32 → Mem → Prop), X_X10_change_45 G Q 1269 (537 + 184 * u + 3 * k) (mg κ ρ1) → X_X10_change G Q 1269 (537 + 184 * u + 3 * k) (nI (bitsN pb 16)) (mg κ ρ1)) ∧ ∀ κ1 (Q : Int32 → Mem → Prop), X_X12_change_46 G Q 1282 (nI (60 * u + k)) (mg κ1 ρ) → X_X12_change G Q 1282 (nI (60 * u + k)) (nI (cntB pb 16)) (mg κ1 ρ)) → (∃ κ' ρ', RunC (fun Q σ => X_X10_change G Q 1269 (537 + 184 * u + 3 * k) (nI (bitsN pb 16)) σ) κ 0 κ' ∧ RunM (fun Q σ => X_X12_change G Q 1282 (nI (60 * u + k)) (nI (cntB pb 16)) σ) ρ 0 ρ' ∧ Brk u κ0 ρ0 κ' ρ') := fun hh =>
    ⟨brkC κ (537 + 184 * u + 3 * k) 2 (-1) (-1), endM ρ (60 * u + k) 2, fun ρ1 Q hQ => hh.1 ρ1 Q ⟨by simp only [hL.1], c_breakOff hL hu hk60 ⟨bz0, hQ⟩⟩, fun κ1 Q hQ => hh.2 κ1 Q ⟨hMM.1, m_ends hMM hm (by omega) (by decide) ⟨bz0, hQ⟩⟩, Brk.ends hC hm fC fM hl (by omega) t3' t4' (by decide)⟩
  rcases rowCase hR c4 (nI x) with ⟨i, r, i1, i2, i3, i4⟩ | ⟨q1, q2⟩
  · obtain ⟨w1, w2, w3, w4, w5⟩ := id i3
    have hi720 : 60 * f + i < 720 := by omega
    -- one goes on
    have go : ((∀ ρ1 (Q : Int32 → Mem → Prop), X_X10_change_54 G Q 1269 (537 + 184 * u + 3 * k) (nI (bitsN pb 16)) (nI (60 * f + i)) (mg κ ρ1) → X_X10_change G Q 1269 (537 + 184 * u + 3 * k) (nI (bitsN pb 16)) (mg κ ρ1)) ∧ ∀ κ1 (Q : Int32 → Mem → Prop), X_X12_change_53 G Q 1282 (nI (60 * u + k)) (nI (cntB pb 16)) (nI r) (mg κ1 ρ) → X_X12_change G Q 1282 (nI (60 * u + k)) (nI (cntB pb 16)) (mg κ1 ρ)) →
        (∃ κ' ρ', RunC (fun Q σ => X_X10_change G Q 1269 (537 + 184 * u + 3 * k) (nI (bitsN pb 16)) σ) κ 0 κ' ∧ RunM (fun Q σ => X_X12_change G Q 1282 (nI (60 * u + k)) (nI (cntB pb 16)) σ) ρ 0 ρ' ∧ Brk u κ0 ρ0 κ' ρ') ∨
        (∃ κ' ρ', RunC (fun Q σ => X_X10_change G Q 1269 (537 + 184 * u + 3 * k) (nI (bitsN pb 16)) σ) κ 1 κ' ∧ RunM (fun Q σ => X_X12_change G Q 1282 (nI (60 * u + k)) (nI (cntB pb 16)) σ) ρ 1 ρ' ∧ Mid n mc rt K C u κ0 ρ0 N r0 κ' ρ' ∧ Log (w + 1) κ' ρ' ∧ Eqv (chC u k) κ κ' ∧ Eqv chM ρ ρ' ∧ mI κ' (537 + 184 * u + 3 * k) 9 = 1 ∧ hasR r0 ρ' (mI ρ0 1320 (60 * u + k)) (mI ρ0 1321 (60 * u + k))) := by
      rintro ⟨rc, rm⟩
      obtain ⟨f', d, x', y1, y2, y3, y4, y5, y6, y7, y8, y9, y10⟩ := hY r i2
      have ef : f' = f := (eI (by omega) (by omega)).mp (y2.symm.trans w1)
      subst ef
      have ed : d = c := by
        have := hcl r i2
        rw [w1, i4, ← c5, ← c9, ← hCl, c2, y4] at this
        exact (eI (by omega) (by omega)).mp this
      subst ed
      obtain ⟨ρ9, e9⟩ : ∃ y, y = sF ρ 1337 0 16 (fun m => if pb m = true then mI ρ 1324 (16 * (60 * u + k) + m) else mI ρ 1309 (16 * r + m)) := ⟨_, rfl⟩
      have hm9 : StM ρ9 := by rw [e9]; exact hm.wF _ _ _ _
      have fr9 : Eqv (fun a _ => a ≠ 1337) ρ ρ9 := by rw [e9]; exact Eqv.rf.sF (fun j _ _ h => h rfl)
      have zr : ∀ a j, a ≠ 1337 → mI ρ9 a j = mI ρ a j := fun a j h => fr9.I h
      have g9 : ∀ m, m < 16 → mI ρ9 1337 m = if pb m = true then mI ρ 1324 (16 * (60 * u + k) + m) else mI ρ 1309 (16 * r + m) := fun m hm => by rw [e9, sF_in (by omega) hm]
      have hS9 : RelS sc n mc rt hc κ ρ9 := hS.fr Eqv.rf (fr9.mo fun a j z => by simp only [sM] at z; omega)
      have hRM9 : RowsM n r0 ρ9 := hRM.fr (zr _ _ (by decide)) (fun a j h1 h2 => zr _ _ (by omega))
      have fM9 : Eqv wfM ρ0 ρ9 := fM.tr (fr9.mo fun a j z h => z (by omega))
      have l9 : Log w κ ρ9 := hl.fr Eqv.rf (fr9.mo fun a j z => by simp only [wM] at z; omega)
      have r9 : ∀ m, m < mc d → ∀ v, rul r0 rt ρ9 f' (nI x) d m v = rul r0 rt ρ f' (nI x) d m v := fun m hm v => rul_fr hS hRM (fr9.mo fun a j z => by simp only [sM] at z; omega) (fun a j h1 h2 => zr _ _ (by omega)) c1 hm c4
      have ev9 : ∀ m, m < mc d → mI ρ9 1337 (0 + m) = if pb m = true then mI ρ 1324 (16 * (60 * u + k) + m) else mI ρ 1309 (16 * r + m) := fun m hm => by
        rw [Nat.zero_add]; exact g9 m (by omega)
      have hp : ∀ m, m < 16 → (((nI (bitsN pb 16) >>> (nI m &&& 31)) &&& (1 : Int32)) = 0) = (pb m = false) := fun m hm => by rw [tb0 hm, bitsN_tb 16 hm]
      have runM : ∀ κ1 (Q : Int32 → Mem → Prop), (∀ K', X_X12_change_56_s G Q 1282 (nI (60 * u + k)) (nI (cntB pb 16)) (nI r) K' (nI 16, mg κ1 ρ9)) → X_X12_change G Q 1282 (nI (60 * u + k)) (nI (cntB pb 16)) (mg κ1 ρ) := fun κ1 Q h => by
        refine rm κ1 Q (m_chgHead hMM hm hS (by omega) (by omega) c1 e4 hpb' (fun K' => ?_))
        rw [← e9]; exact h K'
      have e92 : mI ρ9 1320 (60 * u + k) = nI f' := (zr _ _ (by decide)).trans e2
      have e93 : mI ρ9 1321 (60 * u + k) = nI x := (zr _ _ (by decide)).trans e3
      have e94 : mI ρ9 1322 (60 * u + k) = nI d := (zr _ _ (by decide)).trans e4
      have keep : ∀ m, m < mc d → pb m = false → rul r0 rt ρ f' (nI x) d m (mI ρ 1309 (16 * r + m)) = -1 := fun m hm _ => (rule_iff hS hRM i2 c1 hm w1 i4 y4 c4).mp (y10 m hm)
      by_cases hbad : ∃ m, m < mc d ∧ rul r0 rt ρ f' (nI x) d m (if pb m = true then mI ρ 1324 (16 * (60 * u + k) + m) else mI ρ 1309 (16 * r + m)) ≠ -1
      · obtain ⟨m0, ⟨b1, b2⟩, b3⟩ := pk_least _ hbad
        have hwt : pb m0 = true := by
          cases h : pb m0
          · rw [h, if_neg (by decide)] at b2; exact absurd (keep m0 b1 h) b2
          · rfl
        have b2' := b2
        rw [hwt, if_pos rfl] at b2
        refine Or.inl ⟨brkC κ (537 + 184 * u + 3 * k) 1 (nI m0) (rul r0 rt ρ f' (nI x) d m0 (mI ρ 1324 (16 * (60 * u + k) + m0))), sI (sI (endM (sI (sI ρ9 1282 57 (nI m0)) 1282 58 (rul r0 rt ρ f' (nI x) d m0 (mI ρ 1324 (16 * (60 * u + k) + m0)))) (60 * u + k) 1) 1282 67 (nI m0)) 1282 68 (rul r0 rt ρ f' (nI x) d m0 (mI ρ 1324 (16 * (60 * u + k) + m0))), fun ρ1 Q hQ => ?_, fun κ1 Q hQ => ?_, ?_⟩
        · refine rc ρ1 Q ⟨by simp only [hL.1], ?_⟩
          refine c_keeps0 hG hC hS hR hY hu hk60 c1 c3 t4 t3 hp b1 (fun m m1 m2 => ?_) hwt (by rw [(t6 m0 (by omega)).1]; exact b2) ?_
          · have := fun h => b3 m m1 ⟨by omega, h⟩
            rw [m2, if_pos rfl] at this
            rw [(t6 m (by omega)).1]
            exact Classical.byContradiction this
          · rw [(t6 m0 (by omega)).1]
            exact brT rfl ⟨bz0, hQ⟩
        · refine runM κ1 Q (fun K' => ?_)
          simp (disch := omega) only [X_X12_change_56_s, n16, mI_m, mR_m, hMM.1, hMM.2, hm9.1, hm9.2, lT, lF, tT, tF, eF, pF, zT, m1F, vT, cI, true_and, and_true, true_implies, false_implies, not_false_eq_true, not_true_eq_false, forall_eq, implies_true, e92, e93, e94]
          refine m_broken1 (lo := 0) hG hm9 hS9 hRM9 c1 c3 b1 (by decide) (by simp only [hMM.2]) (by simp only [hMM.2]; decide) (by decide) ev9 (by rw [r9 m0 b1]; exact b2') (fun m m1 => ?_) ?_
          · rw [r9 m (by omega)]
            exact Classical.byContradiction (fun h => b3 m m1 ⟨by omega, h⟩)
          · rw [r9 m0 b1, hwt, if_pos rfl]
            refine br1 (m_ends1 hMM ((hm9.wI _ _ _).wI _ _ _) (by omega) ⟨bz0, ?_⟩)
            have e57 : mI (sI (sI ρ9 1282 57 (nI m0)) 1282 58 (rul r0 rt ρ f' (nI x) d m0 (mI ρ 1324 (16 * (60 * u + k) + m0)))) 1282 57 = nI m0 := by rw [I_sl (by decide), I_is]
            have e58 : mI (sI (sI ρ9 1282 57 (nI m0)) 1282 58 (rul r0 rt ρ f' (nI x) d m0 (mI ρ 1324 (16 * (60 * u + k) + m0)))) 1282 58 = rul r0 rt ρ f' (nI x) d m0 (mI ρ 1324 (16 * (60 * u + k) + m0)) := I_is _ _ _ _
            rw [e57, e58]
            exact hQ
        · have := Brk.ends1 (κ0 := κ0) (ρ0 := ρ0) (u := u) (k := k) hC ((hm9.wI 1282 57 (nI m0)).wI 1282 58 (rul r0 rt ρ f' (nI x) d m0 (mI ρ 1324 (16 * (60 * u + k) + m0)))) fC ((fM9.sI (fun h => h (Or.inl ⟨rfl, by omega⟩)) _).sI (fun h => h (Or.inl ⟨rfl, by omega⟩)) _) (l9.fr Eqv.rf ((Eqv.wI (by simp only [wM]; omega) _).sI (by simp only [wM]; omega) _)) (by omega) (by rw [I_cl (by decide), I_cl (by decide), zr _ _ (by decide)]; exact t3') (by rw [I_cl (by decide), I_cl (by decide), zr _ _ (by decide)]; exact t4')
          have e57 : mI (sI (sI ρ9 1282 57 (nI m0)) 1282 58 (rul r0 rt ρ f' (nI x) d m0 (mI ρ 1324 (16 * (60 * u + k) + m0)))) 1282 57 = nI m0 := by rw [I_sl (by decide), I_is]
          have e58 : mI (sI (sI ρ9 1282 57 (nI m0)) 1282 58 (rul r0 rt ρ f' (nI x) d m0 (mI ρ 1324 (16 * (60 * u + k) + m0)))) 1282 58 = rul r0 rt ρ f' (nI x) d m0 (mI ρ 1324 (16 * (60 * u + k) + m0)) := I_is _ _ _ _
          rw [e57, e58] at this
          exact this
      · have good : ∀ m, m < mc d → rul r0 rt ρ f' (nI x) d m (if pb m = true then mI ρ 1324 (16 * (60 * u + k) + m) else mI ρ 1309 (16 * r + m)) = -1 := fun m hm => Classical.byContradiction (fun h => hbad ⟨m, hm, h⟩)
        obtain ⟨κe, eκe⟩ : ∃ y, y = sI (sI (sF κ 274 (16 * (60 * f' + i)) (16 * (60 * f' + i) + 16) (fun j => if pb (j - 16 * (60 * f' + i)) = true then mI κ (538 + 184 * u + 3 * k) (j - 16 * (60 * f' + i)) else mI κ 274 (16 * (60 * f' + i) + (j - 16 * (60 * f' + i))))) 273 (60 * f' + i) (mI κ 273 (60 * f' + i) + 1)) (537 + 184 * u + 3 * k) 9 1 := ⟨_, rfl⟩
        obtain ⟨ρe, eρe⟩ : ∃ y, y = sI (sF ρ9 1309 (16 * r) (16 * r + 16) (fun j => mI ρ9 1337 (j - 16 * r))) 1308 r (mI ρ9 1308 r + 1) := ⟨_, rfl⟩
        have hCe : StC κe := by rw [eκe]; exact ((hC.wF _ _ _ _).wI _ _ _).wI _ _ _
        have hme : StM ρe := by rw [eρe]; exact (hm9.wF _ _ _ _).wI _ _ _
        have fCe : Eqv (fun a j => ¬ (273 ≤ a ∧ a ≤ 274 ∨ a = 537 + 184 * u + 3 * k ∧ j = 9)) κ κe := by
          rw [eκe]
          refine ((Eqv.rf.sF ?_).sI ?_ _).sI ?_ _
          all_goals first | exact fun h => h (by omega) | exact fun j _ _ h => h (by omega)
        have fMe : Eqv (fun a _ => ¬ (1308 ≤ a ∧ a ≤ 1309)) ρ9 ρe := by
          rw [eρe]
          refine (Eqv.rf.sF ?_).sI ?_ _
          all_goals first | exact fun h => h (by omega) | exact fun j _ _ h => h (by omega)
        have vr : ∀ m, m < 16 → mI ρe 1309 (16 * r + m) = if pb m = true then mI ρ 1324 (16 * (60 * u + k) + m) else mI ρ 1309 (16 * r + m) := fun m hm => by
          rw [eρe, I_cl (by decide), sF_in (by omega) (by omega)]
          show mI ρ9 1337 (16 * r + m - 16 * r) = _
          rw [show 16 * r + m - 16 * r = m by omega]
          exact g9 m hm
        have vo : ∀ j m, j ≠ r → m < 16 → mI ρe 1309 (16 * j + m) = mI ρ 1309 (16 * j + m) := fun j m hj hm => by
          rw [eρe, I_cl (by decide), sF_out (by omega)]; exact zr _ _ (by decide)
        have m5 : ∀ a j, 1305 ≤ a → a ≤ 1307 → mI ρe a j = mI ρ a j := fun a j h1 h2 => (fMe.I (by omega)).trans (zr _ _ (by omega))
        have yR : RelR N r0 κe ρe := by
          refine hR.chg c4 i1 i2 i3 (V := mI ρ 1308 r + 1) (nv := fun m => if pb m = true then mI ρ 1324 (16 * (60 * u + k) + m) else mI ρ 1309 (16 * r + m)) (fun a j h1 h2 => fCe.I (by omega)) ?_ (fun j hj => ?_) (fun m hm => ?_) (fun j m hj hm => ?_) ((fMe.I (by omega)).trans (zr _ _ (by decide))) m5 ?_ (fun j hj => ?_) vr vo
          · rw [eκe, I_cl (by omega), I_is, w4]
          · rw [eκe, I_cl (by omega), I_sl hj, sF_cl (by decide)]
          · rw [eκe, I_cl (by omega), I_cl (by decide), sF_in (by omega) (by omega)]
            show (if pb (16 * (60 * f' + i) + m - 16 * (60 * f' + i)) = true then mI κ (538 + 184 * u + 3 * k) (16 * (60 * f' + i) + m - 16 * (60 * f' + i)) else mI κ 274 (16 * (60 * f' + i) + (16 * (60 * f' + i) + m - 16 * (60 * f' + i)))) = if _ then _ else _
            rw [show 16 * (60 * f' + i) + m - 16 * (60 * f' + i) = m by omega, (t6 m hm).1, w5 m hm]
          · rw [eκe, I_cl (by omega), I_cl (by decide), sF_out (by omega)]
          · rw [eρe, I_is]; rw [zr _ _ (by decide)]
          · rw [eρe, I_sl hj, sF_cl (by decide)]; exact zr _ _ (by decide)
        have sme : Eqv sM ρ ρe := (fr9.mo fun a j z => by simp only [sM] at z; omega).tr (fMe.mo fun a j z => by simp only [sM] at z; omega)
        have hSe : RelS sc n mc rt hc κe ρe := hS.fr (fCe.mo fun a j z => by have := hS.s2; simp only [sCc] at z; omega) sme
        have hRMe : RowsM n r0 ρe := ⟨yR.2.1, yR.le, yR.2.2.2.2.2.2.1, fun r' hr => by
          rw [m5 _ _ (by decide) (by decide)]; exact hRM.2.2.2 r' hr⟩
        have yY : RowsW n r0 mc rt K ρe := by
          refine RowsW.upd (r := r) (f := f') (c := d) (x := x) hS hSe hY hRMe sme i2 (fun _ h _ => h) (fun _ h => h) (fun s hs hne => ⟨m5 _ _ (by decide) (by decide), m5 _ _ (by decide) (by decide), m5 _ _ (by decide) (by decide), fun m hm => vo s m hne hm⟩) (fun _ => ⟨m5 _ _ (by decide) (by decide), m5 _ _ (by decide) (by decide), m5 _ _ (by decide) (by decide)⟩) c4 ((m5 _ _ (by decide) (by decide)).trans w1) c1 ((m5 _ _ (by decide) (by decide)).trans y4) c3 c6 c7 ((m5 _ _ (by decide) (by decide)).trans i4) (fun m m1 m2 => ?_) (fun m m1 => ?_)
          · rw [vr m m2, (z16 m m1 m2).1, y9 m m1 m2]
            cases pb m <;> rfl
          · have key : ∀ s, s < r0 → ¬ (mI ρ 1305 s = nI f' ∧ mI ρ 1306 s = nI x) → s < r0 ∧ mI ρe 1305 s = mI ρ 1305 s ∧ mI ρe 1306 s = mI ρ 1306 s ∧ mI ρe 1307 s = mI ρ 1307 s ∧ mI ρe 1309 (16 * s + m) = mI ρ 1309 (16 * s + m) ∧ ∃ d, d < n ∧ mI ρ 1307 s = nI d := fun s hs hn => ⟨hs, m5 _ _ (by decide) (by decide), m5 _ _ (by decide) (by decide), m5 _ _ (by decide) (by decide), vo s m (fun e => hn (by rw [e]; exact ⟨w1, i4⟩)) (by omega), hRM.2.2.2 s hs⟩
            rw [vr m (by omega), rul_eq hS sme c1 m1 c4 key (fun s hs hn => key s hs (fun z => hn (by rw [m5 _ _ (by decide) (by decide), m5 _ _ (by decide) (by decide)]; exact z)))]
            exact good m m1
        have le : Log w κe ρe := l9.fr (fCe.mo fun a j z => by simp only [wC] at z; omega) (fMe.mo fun a j z => by simp only [wM] at z; omega)
        have ze : ∀ a, 1321 ≤ a → a ≤ 1322 → mI ρe a (60 * u + k) = mI ρ a (60 * u + k) := fun a h1 h2 => (fMe.I (by omega)).trans (zr _ _ (by omega))
        obtain ⟨κ', ρ', d1, d2, d3, d4, d5, d6, d7⟩ := j_note hG hCe hme le hw hu hk60 (by rw [fCe.I (by omega), ze _ (by decide) (by decide)]; exact t3') (by rw [fCe.I (by omega), ze _ (by decide) (by decide)]; exact t4') 1 (nI (cntB pb 16))
        have y5 : ∀ a j, 1305 ≤ a → a ≤ 1309 → mI ρ' a j = mI ρe a j := fun a j h1 h2 => d6.I (fun h => by omega)
        refine Or.inr ⟨κ', ρ', fun ρ1 Q hQ => ?_, fun κ1 Q hQ => ?_, ⟨⟨d3, d4⟩, ?_, ?_, ?_, ?_, fun s hs => ?_⟩, d7, ?_, ?_, ?_, r, i2, ?_, ?_⟩
        · refine rc ρ1 Q ⟨by simp only [hL.1], ?_⟩
          refine c_keeps1 hG hC hS hR hY hu hk60 c1 c3 t4 t3 hp (fun m m1 m2 => ?_) (br1 ?_)
          · have := good m m1
            rw [m2, if_pos rfl] at this
            rw [(t6 m (by omega)).1]
            exact this
          · refine c_chgTail hG hC hu hk60 hi720 ?_
            rw [← eκe]
            exact d1 ρ1 _ hQ
        · refine runM κ1 Q (fun K' => ?_)
          simp (disch := omega) only [X_X12_change_56_s, n16, mI_m, mR_m, hMM.1, hMM.2, hm9.1, hm9.2, lT, lF, tT, tF, eF, pF, zT, m1F, vT, cI, true_and, and_true, true_implies, false_implies, not_false_eq_true, not_true_eq_false, forall_eq, implies_true, e92, e93, e94]
          refine m_broken0 (lo := 0) hG hm9 hS9 hRM9 c1 c3 (by decide) (by simp only [hMM.2]) (by simp only [hMM.2]; decide) (by decide) ev9 (fun m m1 => by rw [r9 m m1]; exact good m m1) (br0 ?_)
          refine m_chgTail hMM hm9 (by omega) (by omega) ?_
          rw [← eρe]
          exact d2 κ1 _ hQ
        · refine (fC.tr (fCe.mo fun a j z h => z ?_)).tr (d5.mo fun a j z h => z ?_)
          · rcases h with h | h
            · exact Or.inl (by omega)
            · exact Or.inr (Or.inr (Or.inr ⟨k, hk60, h.1, Or.inl h.2⟩))
          · rcases h with h | h
            · exact Or.inr (Or.inl ⟨h.1, by omega, by omega⟩)
            · exact Or.inr (Or.inr (Or.inl h))
        · exact (fM9.tr (fMe.mo fun a j z h => z (by omega))).tr (d6.mo fun a j z h => z (by omega))
        · exact yR.fr (d5.mo fun a j z h => by simp only [rC] at z; omega) (d6.mo fun a j z h => by simp only [rM] at z; omega)
        · exact yY.fr hSe (d6.mo fun a j z h => by simp only [rM] at z; omega) (d6.mo fun a j z h => by simp only [sM] at z; omega)
        · rw [y5 _ _ (by decide) (by decide), y5 _ _ (by decide) (by decide), y5 _ _ (by decide) (by decide), m5 _ _ (by decide) (by decide), m5 _ _ (by decide) (by decide), m5 _ _ (by decide) (by decide)]
          exact hcl s hs
        · exact (fCe.mo fun a j z h => z (by omega)).tr (d5.mo fun a j z h => z (by omega))
        · exact ((fr9.mo fun a j z h => z (by omega)).tr (fMe.mo fun a j z h => z (by omega))).tr (d6.mo fun a j z h => z (by omega))
        · rw [d5.I (fun h => by omega), eκe]; exact I_is _ _ _ _
        · rw [y5 _ _ (by decide) (by decide), m5 _ _ (by decide) (by decide), w1, c5]
        · rw [y5 _ _ (by decide) (by decide), m5 _ _ (by decide) (by decide), i4, c9]
    have vcs : mI κ 273 (60 * f + i) = mI ρ 1308 r := w4
    rcases hs with s1 | s2
    · have es : mI κ (537 + 184 * u + 3 * k) 1 = 1 := t1.trans (e1.trans s1)
      have em : mI ρ 1319 (60 * u + k) = 1 := e1.trans s1
      by_cases hv : mI ρ 1308 r = mI ρ 1323 (60 * u + k)
      · refine go ⟨fun ρ1 Q h => ?_, fun κ1 Q h => ?_⟩
        · simp (disch := omega) only [X_X10_change, X_X10_change_0, mI_c, mR_c, mJ_c, sI_c, sJ_c, sR_c, hL.1, hL.2.1, hL.2.2, hC.1, hC.2.1, hC.2.2.1, lT, lF, tT, tF, eF, pF, zT, m1F, vT, cI, true_and, and_true, true_implies, false_implies, not_false_eq_true, not_true_eq_false, forall_eq, implies_true, t2, t3]
          refine c_rowOf1 hL hC hR c4 i1 (w2.trans i4) (brF (mI1 (by omega)) ?_)
          simp (disch := omega) only [mI_c, mR_c, mJ_c, sI_c, sJ_c, sR_c, hL.1, hL.2.1, hL.2.2, hC.1, hC.2.1, hC.2.2.1, lT, lF, tT, tF, eF, pF, zT, m1F, vT, cI, true_and, and_true, true_implies, false_implies, not_false_eq_true, not_true_eq_false, forall_eq, implies_true, es, vcs, t5, hv]
          exact h
        · simp (disch := omega) only [X_X12_change, X_X12_change_0, mI_m, mR_m, hMM.1, hMM.2, hm.1, hm.2, lT, lF, tT, tF, eF, pF, zT, m1F, vT, cI, true_and, and_true, true_implies, false_implies, not_false_eq_true, not_true_eq_false, forall_eq, implies_true, e2, e3]
          refine m_rowOf1 hMM hm hR i2 w1 i4 (brF (pI (by omega)) ?_)
          simp (disch := omega) only [mI_m, mR_m, hMM.1, hMM.2, hm.1, hm.2, lT, lF, tT, tF, eF, pF, zT, m1F, vT, cI, true_and, and_true, true_implies, false_implies, not_false_eq_true, not_true_eq_false, forall_eq, implies_true, em, hv]
          exact h
      · refine Or.inl (stale ⟨fun ρ1 Q h => ?_, fun κ1 Q h => ?_⟩)
        · simp (disch := omega) only [X_X10_change, X_X10_change_0, mI_c, mR_c, mJ_c, sI_c, sJ_c, sR_c, hL.1, hL.2.1, hL.2.2, hC.1, hC.2.1, hC.2.2.1, lT, lF, tT, tF, eF, pF, zT, m1F, vT, cI, true_and, and_true, true_implies, false_implies, not_false_eq_true, not_true_eq_false, forall_eq, implies_true, t2, t3]
          refine c_rowOf1 hL hC hR c4 i1 (w2.trans i4) (brF (mI1 (by omega)) ?_)
          simp (disch := omega) only [mI_c, mR_c, mJ_c, sI_c, sJ_c, sR_c, hL.1, hL.2.1, hL.2.2, hC.1, hC.2.1, hC.2.2.1, lT, lF, tT, tF, eF, pF, zT, m1F, vT, cI, true_and, and_true, true_implies, false_implies, not_false_eq_true, not_true_eq_false, forall_eq, implies_true, es, vcs, t5, hv]
          exact h
        · simp (disch := omega) only [X_X12_change, X_X12_change_0, mI_m, mR_m, hMM.1, hMM.2, hm.1, hm.2, lT, lF, tT, tF, eF, pF, zT, m1F, vT, cI, true_and, and_true, true_implies, false_implies, not_false_eq_true, not_true_eq_false, forall_eq, implies_true, e2, e3]
          refine m_rowOf1 hMM hm hR i2 w1 i4 (brF (pI (by omega)) ?_)
          simp (disch := omega) only [mI_m, mR_m, hMM.1, hMM.2, hm.1, hm.2, lT, lF, tT, tF, eF, pF, zT, m1F, vT, cI, true_and, and_true, true_implies, false_implies, not_false_eq_true, not_true_eq_false, forall_eq, implies_true, em, hv]
          exact h
    · have es : mI κ (537 + 184 * u + 3 * k) 1 = 2 := t1.trans (e1.trans s2)
      have em : mI ρ 1319 (60 * u + k) = 2 := e1.trans s2
      have t21 : ((2 : Int32) = 1) = False := eq_false (by decide)
      refine go ⟨fun ρ1 Q h => ?_, fun κ1 Q h => ?_⟩
      · simp (disch := omega) only [X_X10_change, X_X10_change_0, mI_c, mR_c, mJ_c, sI_c, sJ_c, sR_c, hL.1, hL.2.1, hL.2.2, hC.1, hC.2.1, hC.2.2.1, lT, lF, tT, tF, eF, pF, zT, m1F, vT, cI, true_and, and_true, true_implies, false_implies, not_false_eq_true, not_true_eq_false, forall_eq, implies_true, t2, t3]
        refine c_rowOf1 hL hC hR c4 i1 (w2.trans i4) (brF (mI1 (by omega)) ?_)
        simp (disch := omega) only [mI_c, mR_c, mJ_c, sI_c, sJ_c, sR_c, hL.1, hL.2.1, hL.2.2, hC.1, hC.2.1, hC.2.2.1, lT, lF, tT, tF, eF, pF, zT, m1F, vT, cI, true_and, and_true, true_implies, false_implies, not_false_eq_true, not_true_eq_false, forall_eq, implies_true, es, t21]
        exact h
      · simp (disch := omega) only [X_X12_change, X_X12_change_0, mI_m, mR_m, hMM.1, hMM.2, hm.1, hm.2, lT, lF, tT, tF, eF, pF, zT, m1F, vT, cI, true_and, and_true, true_implies, false_implies, not_false_eq_true, not_true_eq_false, forall_eq, implies_true, e2, e3]
        refine m_rowOf1 hMM hm hR i2 w1 i4 (brF (pI (by omega)) ?_)
        simp (disch := omega) only [mI_m, mR_m, hMM.1, hMM.2, hm.1, hm.2, lT, lF, tT, tF, eF, pF, zT, m1F, vT, cI, true_and, and_true, true_implies, false_implies, not_false_eq_true, not_true_eq_false, forall_eq, implies_true, em, t21]
        exact h
  · refine Or.inl (stale ⟨fun ρ1 Q h => ?_, fun κ1 Q h => ?_⟩)
    · simp (disch := omega) only [X_X10_change, X_X10_change_0, mI_c, mR_c, mJ_c, sI_c, sJ_c, sR_c, hL.1, hL.2.1, hL.2.2, hC.1, hC.2.1, hC.2.2.1, lT, lF, tT, tF, eF, pF, zT, m1F, vT, cI, true_and, and_true, true_implies, false_implies, not_false_eq_true, not_true_eq_false, forall_eq, implies_true, t2, t3]
      exact c_rowOf0 hL hC hR c4 q1 (brT rfl h)
    · simp (disch := omega) only [X_X12_change, X_X12_change_0, mI_m, mR_m, hMM.1, hMM.2, hm.1, hm.2, lT, lF, tT, tF, eF, pF, zT, m1F, vT, cI, true_and, and_true, true_implies, false_implies, not_false_eq_true, not_true_eq_false, forall_eq, implies_true, e2, e3]
      exact m_rowOf0 hMM hm hR.2.1 hr7 q2 (brT m1_neg h)
end CHANGE2
