section CHANGE
variable {G : Lay} {nn sc n r0 r1 w : Nat} {mc rt hc K N N1 us : Nat → Nat} {κ κ' κ0 ρ ρ' ρ0 κ1 ρ1 : Mem} {u k f : Nat} {l L : List Nat} {st : Nat → Int32} {rk : Nat → Nat} {C : Int32 → Int32 → Int32}
theorem j_insertAll (hG : Ly G) (hX : Ctx nn sc n mc rt hc K N1 r1 us κ0 ρ0 u st l C) (hrk : RkOK ρ0 u (us u) st rk) (el : l = ordN rk (sAll st) (us u)) (hM : Mid n mc rt K C u κ0 ρ0 N1 r1 κ0 ρ0) (hl : Log 0 κ0 ρ0) (hz : ∀ k, k < us u → mI κ0 (537 + 184 * u + 3 * k) 9 = 0 ∧ mI κ0 (537 + 184 * u + 3 * k) 10 = 0) :
    (∃ κ' ρ', RunC (fun Q σ => X_X10_insertAll G Q 1269 (533 + 184 * u) σ) κ0 0 κ' ∧ RunM (fun Q σ => X_X12_insertAll G Q 1282 (nI u) σ) ρ0 0 ρ' ∧ Brk u κ0 ρ0 κ' ρ') ∨
    (∃ κ' ρ' N' r0' w', RunC (fun Q σ => X_X10_insertAll G Q 1269 (533 + 184 * u) σ) κ0 1 κ' ∧ RunM (fun Q σ => X_X12_insertAll G Q 1282 (nI u) σ) ρ0 1 ρ' ∧ Mid n mc rt K C u κ0 ρ0 N' r0' κ' ρ' ∧ Log w' κ' ρ' ∧ w' ≤ (l.filter (nwB st)).length ∧ InsS us u st ρ0 r1 r0' κ' ρ' ∧ cntB (cuB st ρ' u) (us u) = 0) := by
  have hL := hG.1
  have hMM := hG.2.2.2
  obtain ⟨hA0, hu, ho0, hst, hlm, hll, oc0, hcl, hcnt⟩ := id hX
  obtain ⟨h60, o2, o3, o4, o5⟩ := hA0.2.2.2.2.2.2.2.1.op hu ho0
  obtain ⟨⟨hC, hm⟩, fC, fM, hR, hY, hrc⟩ := id hM
  obtain ⟨ρa, ra, hma, fra, oma⟩ := m_order (p := nwB st) (l2 := 1) (l3 := 0) (l4 := 0) hMM hm hu h60 o3 hrk el (fun k hk => by
    unfold selO sAll nwB
    rw [hst k hk]
    by_cases h : st k = 2 <;> simp [h])
  obtain ⟨ρb, eb⟩ : ∃ x, x = sF (sF ρa 1335 0 240 (fun _ => 0)) 1336 0 3840 (fun _ => 0) := ⟨_, rfl⟩
  have hmb : StM ρb := by rw [eb]; exact (hma.wF _ _ _ _).wF _ _ _ _
  have frb : Eqv (fun a j => ¬ (a = 1282 ∧ j = 75 ∨ 1334 ≤ a ∧ a ≤ 1336)) ρ0 ρb := by
    rw [eb]
    refine ((fra.mo fun a j h => by omega).sF (fun j _ _ h => by omega)).sF (fun j _ _ h => by omega)
  have zb : ∀ j, j < 240 → mI ρb 1335 j = 0 := fun j hj => by
    rw [eb, sF_cl (by decide), sF_in (by omega) (by omega)]
  have zc : ∀ j, j < 3840 → mI ρb 1336 j = 0 := fun j hj => by
    rw [eb, sF_in (by omega) (by omega)]
  have omb : OrdM ρb u (l.filter (nwB st)) := by
    rw [eb]
    refine ⟨?_, fun i hi => ?_⟩
    · rw [sF_cl (by decide), sF_cl (by decide)]; exact oma.1
    · rw [sF_cl (by decide), sF_cl (by decide)]; exact oma.2 i hi
  have hMb : Mid n mc rt K C u κ0 ρ0 N1 r1 κ0 ρb := ⟨⟨hC, hmb⟩, fC, frb.mo (fun a j h => fun h2 => h (by omega)), hR.fr Eqv.rf (frb.mo fun a j h => by simp only [rM] at h; omega), hY.fr hA0.2.2.2.1 (frb.mo fun a j h => by simp only [rM] at h; omega) (frb.mo fun a j h => by simp only [sM] at h; omega), fun r hr => by
    rw [frb.I (by omega), frb.I (by omega), frb.I (by omega)]; exact hrc r hr⟩
  have hlb : Log 0 κ0 ρb := hl.fr Eqv.rf (frb.mo fun a j h => by simp only [wM] at h; omega)
  have r5 : ∀ a j, 1305 ≤ a → a ≤ 1309 → mI ρb a j = mI ρ0 a j := fun a j h1 h2 => frb.I (by omega)
  have hIb : InsS us u st ρ0 r1 r1 κ0 ρb := by
    refine ⟨fun k hk s2 => ⟨?_, ?_, Or.inl ⟨zb _ (by omega), fun m hm => zc _ (by omega), fun r hr => ?_⟩⟩, fun k hk _ => hz k hk, fun r hr => Or.inl ⟨r, hr, r5 _ _ (by decide) (by decide), r5 _ _ (by decide) (by decide)⟩⟩
    · rw [(hz k hk).1, zb _ (by omega)]
    · rw [(hz k hk).2, (bitsN_0 (p := ofB ρb (60 * u + k)) 16).mpr (fun m hm => decide_eq_false (fun h => h (zc _ (by omega))))]; rfl
    · rw [r5 _ _ (by decide) (by decide), r5 _ _ (by decide) (by decide)]
      obtain ⟨s, f, x, y1, y2, y3, y4, y5, y6, y7, y8, y9, y10⟩ := hA0.2.2.2.2.2.2.2.2.2.2.2.1 u hu ho0 k hk
      have es : s = 2 := (eI (b := 2) (by omega) (by decide)).mp (y2.symm.trans ((hst k hk).trans s2))
      rw [y4, y7]
      exact (y10 es).2 r hr
  have et : cntB (cuB st ρb u) (us u) = (l.filter (nwB st)).length := by
    rw [hcnt]
    refine cntB_cg (us u) (fun k hk => ?_)
    unfold cuB nwB sAll
    rw [zb _ (by omega)]
    by_cases h : st k = 2 <;> simp [h]
  have ht : (l.filter (nwB st)).length ≤ 60 := Nat.le_trans (List.length_filter_le _ _) hll
  have runC : ∀ ρ1 (Q : Int32 → Mem → Prop), Lw (X_X10_insertAll_8_s G Q 1269 (533 + 184 * u) (nI (l.filter (nwB st)).length)) (nI 0, mg κ0 ρ1) → X_X10_insertAll G Q 1269 (533 + 184 * u) (mg κ0 ρ1) := fun ρ1 Q h => by
    simp (disch := omega) only [X_X10_insertAll, X_X10_insertAll_0, hL.1, true_and]
    refine c_countIn hG hC hu oc0 hll (fun k hk => by have := ((hlm k).mp hk).1; omega) (p := nwB st) (fun k hk => ?_) h
    have hk2 := ((hlm k).mp hk).1
    rw [(o5 k hk2).1, hst k hk2]
    exact decide_eq_true_iff
  have runM : ∀ κ1 (Q : Int32 → Mem → Prop), Lw (X_X12_insertAll_57_s G Q 1282) (nI (l.filter (nwB st)).length, mg κ1 ρb) → X_X12_insertAll G Q 1282 (nI u) (mg κ1 ρ0) := fun κ1 Q h => by
    simp (disch := omega) only [X_X12_insertAll, X_X12_insertAll_0, hMM.1, true_and]
    refine ra κ1 _ (m_zeroIns hMM hma ?_)
    rw [oma.1, ← eb]
    exact h
  rcases j_insLoop hG hX ht _ 0 (Nat.zero_add _) κ0 ρb N1 r1 0 hMb hlb (Nat.zero_le _) hIb omb et with ⟨κ', ρ', a1, a2, a3⟩ | ⟨κ', ρ', N', r0', w', a1, a2, a3⟩
  · exact Or.inl ⟨κ', ρ', fun ρ1 Q hQ => runC ρ1 Q (a1 ρ1 Q hQ), fun κ1 Q hQ => runM κ1 Q (a2 κ1 Q hQ), a3⟩
  · exact Or.inr ⟨κ', ρ', N', r0', w', fun ρ1 Q hQ => runC ρ1 Q (a1 ρ1 Q hQ), fun κ1 Q hQ => runM κ1 Q (a2 κ1 Q hQ), a3⟩
/-- rows behind a change of one -/
theorem RelR.chg (xR : RelR N r0 κ ρ) {i r : Nat} (hf : f < 12) (hi : i < N f) (hr : r < r0) (hrow : RowR κ ρ f i r) {V : Int32} {nv : Nat → Int32}
    (c0 : ∀ a j, 270 ≤ a → a ≤ 272 → mI κ' a j = mI κ a j) (c1 : mI κ' 273 (60 * f + i) = V) (c2 : ∀ j, j ≠ 60 * f + i → mI κ' 273 j = mI κ 273 j) (c3 : ∀ m, m < 16 → mI κ' 274 (16 * (60 * f + i) + m) = nv m) (c4 : ∀ j m, j ≠ 60 * f + i → m < 16 → mI κ' 274 (16 * j + m) = mI κ 274 (16 * j + m))
    (m0 : mI ρ' 1282 26 = mI ρ 1282 26) (m1 : ∀ a j, 1305 ≤ a → a ≤ 1307 → mI ρ' a j = mI ρ a j) (m2 : mI ρ' 1308 r = V) (m3 : ∀ j, j ≠ r → mI ρ' 1308 j = mI ρ 1308 j) (m4 : ∀ m, m < 16 → mI ρ' 1309 (16 * r + m) = nv m) (m5 : ∀ j m, j ≠ r → m < 16 → mI ρ' 1309 (16 * j + m) = mI ρ 1309 (16 * j + m)) : RelR N r0 κ' ρ' := by
  obtain ⟨w1, w2, w3, w4, w5⟩ := hrow
  have rowsame : ∀ g j s, g < 12 → j < N g → s < r0 → RowR κ ρ g j s → RowR κ' ρ' g j s := by
    rintro g j s hg hj hs ⟨v1, v2, v3, v4, v5⟩
    have h60 := (xR.1 g hg).2
    have h61 := (xR.1 f hf).2
    have hgj : (g = f ∧ j = i) ↔ s = r := by
      constructor
      · rintro ⟨rfl, rfl⟩
        exact xR.2.2.2.2.2.2.1 s r hs hr (v1.trans w1.symm) (v2.symm.trans w2)
      · rintro rfl
        have eg : g = f := (eI (by omega) (by omega)).mp (v1.symm.trans w1)
        subst eg
        exact ⟨rfl, xR.rowInj hg hj hi (v2.trans w2.symm)⟩
    by_cases e : s = r
    · obtain ⟨rfl, rfl⟩ := hgj.mpr e
      subst e
      exact ⟨(m1 _ _ (by decide) (by decide)).trans v1, by rw [c0 _ _ (by decide) (by decide), m1 _ _ (by decide) (by decide)]; exact v2, by rw [c0 _ _ (by decide) (by decide), m1 _ _ (by decide) (by decide)]; exact v3, by rw [c1, m2], fun m hm => by rw [c3 m hm, m4 m hm]⟩
    · have hne : 60 * g + j ≠ 60 * f + i := fun h => e (hgj.mp (by omega))
      exact ⟨(m1 _ _ (by decide) (by decide)).trans v1, by rw [c0 _ _ (by decide) (by decide), m1 _ _ (by decide) (by decide)]; exact v2, by rw [c0 _ _ (by decide) (by decide), m1 _ _ (by decide) (by decide)]; exact v3, by rw [c2 _ hne, m3 _ e]; exact v4, fun m hm => by rw [c4 _ m hne hm, m5 _ m e hm]; exact v5 m hm⟩
  obtain ⟨z1, z2, z3, z4, z5, z6, z7, z8⟩ := xR
  refine ⟨fun g hg => ?_, m0.trans z2, z3, fun g hg a b hab hb => ?_, fun g hg a ha => ?_, fun s hs => ?_, fun s s' hs hs' e1 e2 => ?_, fun g hg => ?_⟩
  · rw [c0 _ _ (by decide) (by decide)]; exact z1 g hg
  · rw [c0 _ _ (by decide) (by decide), c0 _ _ (by decide) (by decide)]; exact z4 g hg a b hab hb
  · obtain ⟨s, hs, q⟩ := z5 g hg a ha
    exact ⟨s, hs, rowsame g a s hg ha hs q⟩
  · obtain ⟨g, hg, a, ha, q⟩ := z6 s hs
    exact ⟨g, hg, a, ha, rowsame g a s hg ha hs q⟩
  · rw [m1 _ _ (by decide) (by decide), m1 _ _ (by decide) (by decide)] at e1 e2
    exact z7 s s' hs hs' e1 e2
  · rw [← z8 g hg]
    exact cnt_cg _ (fun s hs => m1 _ _ (by decide) (by decide))
theorem sF_skip {σ : Mem} {a lo hi : Nat} {g : Nat → Int32} (h : lo ≤ hi) (e : g hi = mI σ a hi) : sF σ a lo hi g = sF σ a lo (hi + 1) g := by
  unfold sF
  refine Prod.ext ?_ rfl
  funext q j
  show (if q = a ∧ lo ≤ j ∧ j < hi then g j else σ.1 q j) = if q = a ∧ lo ≤ j ∧ j < hi + 1 then g j else σ.1 q j
  by_cases c : q = a ∧ lo ≤ j ∧ j < hi
  · rw [if_pos c, if_pos (by omega)]
  · rw [if_neg c]
    by_cases d : q = a ∧ lo ≤ j ∧ j < hi + 1
    · rw [if_pos d]
      obtain ⟨rfl, d2, d3⟩ := d
      have ej : j = hi := by omega
      rw [ej]; exact e.symm
    · rw [if_neg d]
/-- what a change leaves as it is -/
def chC (u k a j : Nat) : Prop := ¬ (273 ≤ a ∧ a ≤ 274 ∨ a = 1269 ∧ j = 9 ∨ 1271 ≤ a ∧ a ≤ 1274 ∨ a = 537 + 184 * u + 3 * k ∧ j = 9)
def chM (a j : Nat) : Prop := ¬ (a = 1282 ∧ j = 69 ∨ 1308 ≤ a ∧ a ≤ 1309 ∨ 1330 ≤ a ∧ a ≤ 1333 ∨ a = 1337)
/-- the class's change of a row -/
theorem c_chgTail (hG : Ly G) (hC : StC κ) (hu : u < 4) (hk : k < 60) {i : Nat} (hi : i < 720) {pb : Nat → Bool} {Q : Int32 → Mem → Prop} (h : X_X10_noteWrite G (fun s5 => Q (1 : Int32) s5) 1269 1 (537 + 184 * u + 3 * k) (nI (cntB pb 16)) (mg (sI (sI (sF κ 274 (16 * i) (16 * i + 16) (fun j => if pb (j - 16 * i) = true then mI κ (538 + 184 * u + 3 * k) (j - 16 * i) else mI κ 274 (16 * i + (j - 16 * i)))) 273 i (mI κ 273 i + 1)) (537 + 184 * u + 3 * k) 9 1) ρ1)) : X_X10_change_68 G Q 1269 (537 + 184 * u + 3 * k) (nI (bitsN pb 16)) (nI i) 0 (mg κ ρ1) := by
  have hL := hG.1
  have n16 : (16 : Int32) = nI 16 := rfl
  unfold X_X10_change_68
  refine Lw.nat 16 (fun m x => x = (nI m, mg (sF κ 274 (16 * i) (16 * i + m) (fun j => if pb (j - 16 * i) = true then mI κ (538 + 184 * u + 3 * k) (j - 16 * i) else mI κ 274 (16 * i + (j - 16 * i)))) ρ1)) ?_ 0 (by omega) _ (by rw [Nat.add_zero, sF_0]; rfl)
  rintro K' m x hm rfl hk'
  have hC' : StC (sF κ 274 (16 * i) (16 * i + m) (fun j => if pb (j - 16 * i) = true then mI κ (538 + 184 * u + 3 * k) (j - 16 * i) else mI κ 274 (16 * i + (j - 16 * i)))) := hC.wF _ _ _ _
  by_cases hlt : m < 16
  · simp (disch := omega) only [X_X10_change_68_s, X_X10_change_101, n16, lT, lF, tT, tF, eF, pF, zT, m1F, vT, cI, true_and, and_true, true_implies, false_implies, not_false_eq_true, not_true_eq_false, forall_eq, implies_true, tb0, bitsN_tb, nI_1]
    have e16 : 16 * i + m - 16 * i = m := by omega
    refine ⟨fun e => hk' _ hlt ?_, fun e => ?_⟩
    · rw [sF_skip (by omega) (by show (if pb (16 * i + m - 16 * i) = true then _ else _) = _; rw [e16, if_neg (by rw [e]; decide)])]; rfl
    · have ep : pb m = true := by
        cases h : pb m
        · exact absurd h e
        · rfl
      simp (disch := omega) only [mI_c, mR_c, hL.1, hL.2.2, hC'.1, hC'.2.2.1, lT, lF, tT, tF, eF, pF, zT, m1F, vT, cI, true_and, and_true, true_implies, false_implies, not_false_eq_true, not_true_eq_false, forall_eq, implies_true, sF_cl]
      refine c_set hL hC' hi hlt (hk' _ hlt ?_)
      rw [sF_st (by omega) (by show _ = if pb (16 * i + m - 16 * i) = true then _ else _; rw [e16, if_pos ep])]; rfl
  · obtain rfl : m = 16 := by omega
    simp (disch := omega) only [X_X10_change_68_s, n16, mI_c, mR_c, sI_c, hL.1, hL.2.2, hC'.1, lT, lF, tT, tF, eF, pF, zT, m1F, vT, cI, true_and, and_true, true_implies, false_implies, not_false_eq_true, not_true_eq_false, forall_eq, implies_true, sF_cl, bzT1]
    exact j6_bits h
/-- the reference's row behind a change -/
theorem m_chgHead (hM : LyM G) (hm : StM ρ) (hS : RelS sc n mc rt hc κ ρ) {p r c : Nat} (hp : p < 240) (hr : r < 720) (hc1 : c < n) (ec : mI ρ 1322 p = nI c) {pb : Nat → Bool} (hpb : mI ρ 1319 p = 2 ∧ (∀ m, m < 16 → pb m = ofB ρ p m) ∨ mI ρ 1319 p = 1 ∧ (∀ m, m < 16 → pb m = chgM ρ p m) ∧ ∀ m, mc c ≤ m → m < 16 → pb m = false) {l2 : Int32} {Q : Int32 → Mem → Prop} (h : ∀ K, X_X12_change_56_s G Q 1282 (nI p) l2 (nI r) K (nI 16, mg κ1 (sF ρ 1337 0 16 (fun m => if pb m = true then mI ρ 1324 (16 * p + m) else mI ρ 1309 (16 * r + m))))) : X_X12_change_56 G Q 1282 (nI p) l2 (nI r) 0 (mg κ1 ρ) := by
  have h12 := hS.le
  obtain ⟨-, -, -, -, ew, h16, -⟩ := hS.cls hc1
  have n16 : (16 : Int32) = nI 16 := rfl
  unfold X_X12_change_56
  refine Lw.nat 16 (fun m x => x = (nI m, mg κ1 (sF ρ 1337 0 m (fun m => if pb m = true then mI ρ 1324 (16 * p + m) else mI ρ 1309 (16 * r + m))))) ?_ 0 (by omega) _ (by rw [sF_0]; rfl)
  rintro K' m x hm2 rfl hk'
  have hmi : StM (sF ρ 1337 0 m (fun m => if pb m = true then mI ρ 1324 (16 * p + m) else mI ρ 1309 (16 * r + m))) := hm.wF _ _ _ _
  by_cases hlt : m < 16
  · have fin1 : pb m = true → ∀ v : Int32, ¬ v = 0 → X_X12_change_136 G Q K' 1282 (nI p) l2 (nI r) (nI m) v (mg κ1 (sF ρ 1337 0 m (fun m => if pb m = true then mI ρ 1324 (16 * p + m) else mI ρ 1309 (16 * r + m)))) := fun e v hv => by
      simp (disch := omega) only [X_X12_change_136, X_X12_change_176, n16, pk_mul, nI_add, mI_m, mR_m, sI_m, hM.1, hM.2, hmi.1, hmi.2, lT, lF, tT, tF, eF, pF, zT, m1F, vT, cI, true_and, and_true, true_implies, false_implies, not_false_eq_true, not_true_eq_false, forall_eq, implies_true, sF_cl, nI_1]
      refine brF hv (hk' _ hlt ?_)
      rw [sF_st (by omega) (by show _ = if pb m = true then _ else _; rw [if_pos e])]
    have fin0 : pb m = false → X_X12_change_136 G Q K' 1282 (nI p) l2 (nI r) (nI m) 0 (mg κ1 (sF ρ 1337 0 m (fun m => if pb m = true then mI ρ 1324 (16 * p + m) else mI ρ 1309 (16 * r + m)))) := fun e => by
      simp (disch := omega) only [X_X12_change_136, X_X12_change_176, n16, pk_mul, nI_add, mI_m, mR_m, sI_m, hM.1, hM.2, hmi.1, hmi.2, lT, lF, tT, tF, eF, pF, zT, m1F, vT, cI, true_and, and_true, true_implies, false_implies, not_false_eq_true, not_true_eq_false, forall_eq, implies_true, sF_cl, nI_1]
      refine hk' _ hlt ?_
      rw [sF_st (by omega) (by show _ = if pb m = true then _ else _; rw [if_neg (by rw [e]; decide)])]
    rcases hpb with ⟨s2, hb⟩ | ⟨s1, hb, hb2⟩
    · simp (disch := omega) only [X_X12_change_56_s, n16, pk_mul, nI_add, mI_m, mR_m, hM.1, hM.2, hmi.1, hmi.2, lT, lF, tT, tF, eF, pF, zT, m1F, vT, cI, true_and, and_true, true_implies, false_implies, not_false_eq_true, not_true_eq_false, forall_eq, implies_true, sF_cl, s2]
      by_cases e : mI ρ 1336 (16 * p + m) = 0
      · rw [e]
        exact fin0 (by rw [hb m hlt]; exact decide_eq_false (fun h => h e))
      · exact fin1 (by rw [hb m hlt]; exact decide_eq_true e) _ e
    · simp (disch := omega) only [X_X12_change_56_s, X_X12_change_135, n16, pk_mul, nI_add, mI_m, mR_m, hM.1, hM.2, hmi.1, hmi.2, lT, lF, tT, tF, eF, pF, zT, m1F, vT, cI, true_and, and_true, true_implies, false_implies, not_false_eq_true, not_true_eq_false, forall_eq, implies_true, sF_cl, s1, o2F, ec, ew]
      refine ⟨fun e => fin0 (hb2 m ((lI (by omega) (by omega)).mp e) hlt), fun e => ⟨fun e2 => fin0 ?_, fun e2 => fin1 ?_ 1 (by decide)⟩⟩
      · rw [hb m hlt]; exact decide_eq_false (fun h => h e2)
      · rw [hb m hlt]; exact decide_eq_true e2
  · obtain rfl : m = 16 := by omega
    exact h K'
theorem m_chgTail (hM : LyM G) (hm : StM ρ) {p r : Nat} (hp : p < 240) (hr : r < 720) {l2 : Int32} {Q : Int32 → Mem → Prop} (h : X_X12_written G (fun s5 => Q (1 : Int32) s5) 1282 1 (nI p) l2 (mg κ1 (sI (sF ρ 1309 (16 * r) (16 * r + 16) (fun j => mI ρ 1337 (j - 16 * r))) 1308 r (mI ρ 1308 r + 1)))) : X_X12_change_223 G Q 1282 (nI p) l2 (nI r) 0 (mg κ1 ρ) := by
  have n16 : (16 : Int32) = nI 16 := rfl
  unfold X_X12_change_223
  refine Lw.nat 16 (fun m x => x = (nI m, mg κ1 (sF ρ 1309 (16 * r) (16 * r + m) (fun j => mI ρ 1337 (j - 16 * r))))) ?_ 0 (by omega) _ (by rw [Nat.add_zero, sF_0]; rfl)
  rintro K' m x hm2 rfl hk'
  have hmi : StM (sF ρ 1309 (16 * r) (16 * r + m) (fun j => mI ρ 1337 (j - 16 * r))) := hm.wF _ _ _ _
  by_cases hlt : m < 16
  · simp (disch := omega) only [X_X12_change_223_s, n16, pk_mul, nI_add, mI_m, mR_m, sI_m, hM.1, hM.2, hmi.1, hmi.2, lT, lF, tT, tF, eF, pF, zT, m1F, vT, cI, true_and, and_true, true_implies, false_implies, not_false_eq_true, not_true_eq_false, forall_eq, implies_true, sF_cl, nI_1]
    refine hk' _ hlt ?_
    rw [sF_st (by omega) (by show _ = mI ρ 1337 (16 * r + m - 16 * r); congr 1; omega)]; rfl
  · obtain rfl : m = 16 := by omega
    simp (disch := omega) only [X_X12_change_223_s, n16, mI_m, mR_m, sI_m, hM.1, hM.2, hmi.1, hmi.2, lT, lF, tT, tF, eF, pF, zT, m1F, vT, cI, true_and, and_true, true_implies, false_implies, not_false_eq_true, not_true_eq_false, forall_eq, implies_true, sF_cl, bzT1]
    exact h
end CHANGE
