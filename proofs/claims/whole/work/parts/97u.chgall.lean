section CHGALL
variable {G : Lay} {nn sc n r0 r1 w : Nat} {mc rt hc K N N1 us : Nat → Nat} {κ κ' κ0 ρ ρ' ρ0 κ1 ρ1 : Mem} {u k f : Nat} {l L : List Nat} {st : Nat → Int32} {rk : Nat → Nat} {C : Int32 → Int32 → Int32}
theorem m_cnt41 (hM : LyM G) (hm : StM ρ) {p : Nat} (hp : p < 240) {l2 : Int32} {Q : Int32 → Mem → Prop} {K10 : Int32 × Mem → Prop} (q : X_X12_changeAll_89 G Q K10 1282 l2 (nI p) (nI (cntB (ofB ρ p) 16)) (mg κ1 ρ)) : X_X12_changeAll_41 G Q K10 1282 l2 (nI p) 0 0 (mg κ1 ρ) := by
  have n16 : (16 : Int32) = nI 16 := rfl
  unfold X_X12_changeAll_41
  refine Lw.nat 16 (fun m x => x = (nI (cntB (ofB ρ p) m), nI m, mg κ1 ρ)) ?_ 0 (by omega) _ rfl
  rintro K' m x hm2 rfl hk'
  by_cases hlt : m < 16
  · simp (disch := omega) only [X_X12_changeAll_41_s, X_X12_changeAll_70, n16, pk_mul, nI_add, mI_m, mR_m, mJ_m, sI_m, sJ_m, hM.1, hM.2, hm.1, hm.2, lT, lF, tT, tF, eF, pF, zT, m1F, vT, cI, true_and, and_true, true_implies, false_implies, not_false_eq_true, not_true_eq_false, forall_eq, implies_true, nI_1]
    refine ⟨fun e => hk' _ hlt ?_, fun e => hk' _ hlt ?_⟩
    · show _ = (nI (cntB _ m + if decide _ = true then 1 else 0), _)
      rw [if_neg (by rw [decide_eq_true_iff]; exact fun z => z e), show (0 : Int32) = nI 0 from rfl, nI_add]
    · show _ = (nI (cntB _ m + if decide _ = true then 1 else 0), _)
      rw [if_pos (by rw [decide_eq_true_iff]; exact e)]
  · obtain rfl : m = 16 := by omega
    exact brT (by decide) q
/-- how far the changes are -/
def ChS (us : Nat → Nat) (u : Nat) (st : Nat → Int32) (l : List Nat) (ρ0 : Mem) (r1 r0 i : Nat) (κ ρ : Mem) : Prop :=
  (∀ k, k < us u → st k = 2 → mI κ (537 + 184 * u + 3 * k) 9 = 1 ∧ mI κ (537 + 184 * u + 3 * k) 10 = nI (bitsN (ofB ρ (60 * u + k)) 16) ∧ hasR r0 ρ (mI ρ0 1320 (60 * u + k)) (mI ρ0 1321 (60 * u + k))) ∧
  (∀ k, k < us u → st k = 3 → mI κ (537 + 184 * u + 3 * k) 9 = 0 ∧ mI κ (537 + 184 * u + 3 * k) 10 = 0) ∧
  (∀ k, k < us u → st k = 1 → bitsN (chgM ρ0 (60 * u + k)) 16 = 0 → mI κ (537 + 184 * u + 3 * k) 9 = 0) ∧
  (∀ k, k < us u → st k = 1 → bitsN (chgM ρ0 (60 * u + k)) 16 ≠ 0 → (∃ j, j < i ∧ l.getD j 0 = k) → mI κ (537 + 184 * u + 3 * k) 9 = 1 ∧ hasR r0 ρ (mI ρ0 1320 (60 * u + k)) (mI ρ0 1321 (60 * u + k))) ∧
  (∀ r, r < r0 → (∃ r', r' < r1 ∧ mI ρ 1305 r = mI ρ0 1305 r' ∧ mI ρ 1306 r = mI ρ0 1306 r') ∨ newK us ρ0 u (mI ρ 1305 r) (mI ρ 1306 r))
theorem ChS.skip {i : Nat} (h : ChS us u st l ρ0 r1 r0 i κ ρ) (hh : st (l.getD i 0) = 1 → bitsN (chgM ρ0 (60 * u + l.getD i 0)) 16 = 0) : ChS us u st l ρ0 r1 r0 (i + 1) κ ρ := by
  obtain ⟨h1, h2, h3, h4, h5⟩ := h
  refine ⟨h1, h2, h3, fun k hk s1 hb hj => h4 k hk s1 hb ?_, h5⟩
  obtain ⟨j, j1, j2⟩ := hj
  by_cases e : j = i
  · rw [e] at j2
    rw [j2] at hh
    exact absurd (hh s1) hb
  · exact ⟨j, by omega, j2⟩
theorem ChS.step {i : Nat} (h : ChS us u st l ρ0 r1 r0 i κ ρ) (hu : u < 4) (h60 : us u ≤ 60) (hk : k < us u) (sk : st k = 2 ∨ st k = 1 ∧ bitsN (chgM ρ0 (60 * u + k)) 16 ≠ 0) (ek : l.getD i 0 = k) (fC : Eqv (chC u k) κ κ') (fM : Eqv chM ρ ρ') (e9 : mI κ' (537 + 184 * u + 3 * k) 9 = 1) (hr : hasR r0 ρ' (mI ρ0 1320 (60 * u + k)) (mI ρ0 1321 (60 * u + k))) : ChS us u st l ρ0 r1 r0 (i + 1) κ' ρ' := by
  obtain ⟨h1, h2, h3, h4, h5⟩ := h
  have c9 : ∀ j s, j < us u → (s = 9 ∧ j ≠ k ∨ s = 10) → mI κ' (537 + 184 * u + 3 * j) s = mI κ (537 + 184 * u + 3 * j) s := fun j s hj hs => fC.I (fun h => by omega)
  have m5 : ∀ a j, 1305 ≤ a → a ≤ 1307 → mI ρ' a j = mI ρ a j := fun a j h1 h2 => fM.I (fun h => by omega)
  have hR : ∀ F X, hasR r0 ρ F X → hasR r0 ρ' F X := by
    rintro F X ⟨r, r1, r2, r3⟩
    exact ⟨r, r1, (m5 _ _ (by decide) (by decide)).trans r2, (m5 _ _ (by decide) (by decide)).trans r3⟩
  refine ⟨fun j hj s2 => ?_, fun j hj s3 => ?_, fun j hj s1 hb => ?_, fun j hj s1 hb hx => ?_, fun r hr => ?_⟩
  · obtain ⟨a1, a2, a3⟩ := h1 j hj s2
    refine ⟨?_, ?_, hR _ _ a3⟩
    · by_cases e : j = k
      · rw [e]; exact e9
      · rw [c9 j 9 hj (Or.inl ⟨rfl, e⟩)]; exact a1
    · rw [c9 j 10 hj (Or.inr rfl), a2]
      refine congrArg nI (bitsN_cg 16 (fun m hm => ?_))
      unfold ofB
      rw [fM.I (a := 1336) (fun h => by omega)]
  · have e : j ≠ k := fun e => by
      rw [e] at s3
      rcases sk with sk | sk
      · rw [s3] at sk; exact absurd sk (by decide)
      · rw [s3] at sk; exact absurd sk.1 (by decide)
    rw [c9 j 9 hj (Or.inl ⟨rfl, e⟩), c9 j 10 hj (Or.inr rfl)]
    exact h2 j hj s3
  · have e : j ≠ k := fun e => by
      rw [e] at s1 hb
      rcases sk with sk | sk
      · rw [s1] at sk; exact absurd sk (by decide)
      · exact sk.2 hb
    rw [c9 j 9 hj (Or.inl ⟨rfl, e⟩)]
    exact h3 j hj s1 hb
  · by_cases e : j = k
    · rw [e]; exact ⟨e9, hr⟩
    · obtain ⟨j', j1, j2⟩ := hx
      have : j' ≠ i := fun e2 => e (by rw [← j2, e2, ek])
      obtain ⟨a1, a2⟩ := h4 j hj s1 hb ⟨j', by omega, j2⟩
      exact ⟨by rw [c9 j 9 hj (Or.inl ⟨rfl, e⟩)]; exact a1, hR _ _ a2⟩
  · rw [m5 _ _ (by decide) (by decide), m5 _ _ (by decide) (by decide)]; exact h5 r hr
theorem j_chgLoop (hG : Ly G) (hX : Ctx nn sc n mc rt hc K N1 r1 us κ0 ρ0 u st l C) {w0 : Nat} (hw0 : w0 ≤ 60) : ∀ e i, i + e = l.length → ∀ κ ρ w, Mid n mc rt K C u κ0 ρ0 N r0 κ ρ → Log w κ ρ → w ≤ w0 + fpos (nlB st) l i → ChS us u st l ρ0 r1 r0 i κ ρ → OrdM ρ u (l.filter (nlB st)) →
    (∃ κ' ρ', (∀ ρ1 (Q : Int32 → Mem → Prop), Q 0 (mg κ' ρ1) → Lw (X_X10_changeAll_2_s G Q 1269) (nI i, mg κ ρ1)) ∧ (∀ κ1 (Q : Int32 → Mem → Prop), Q 0 (mg κ1 ρ') → Lw (X_X12_changeAll_10_s G Q 1282) (nI (fpos (nlB st) l i), mg κ1 ρ)) ∧ Brk u κ0 ρ0 κ' ρ') ∨
    (∃ κ' ρ' w', (∀ ρ1 (Q : Int32 → Mem → Prop), Q 1 (mg κ' ρ1) → Lw (X_X10_changeAll_2_s G Q 1269) (nI i, mg κ ρ1)) ∧ (∀ κ1 (Q : Int32 → Mem → Prop), Q 1 (mg κ1 ρ') → Lw (X_X12_changeAll_10_s G Q 1282) (nI (fpos (nlB st) l i), mg κ1 ρ)) ∧ Mid n mc rt K C u κ0 ρ0 N r0 κ' ρ' ∧ Log w' κ' ρ' ∧ w' ≤ w0 + (l.filter (nlB st)).length ∧ ChS us u st l ρ0 r1 r0 l.length κ' ρ') := by
  have hL := hG.1
  have hMM := hG.2.2.2
  obtain ⟨hA0, hu, ho0, hst, hlm, hll, oc0, hcl, -⟩ := id hX
  have h60 : us u ≤ 60 := (hA0.2.2.2.2.2.2.2.1.op hu ho0).1
  have pl : (l.filter (nlB st)).length ≤ 60 := Nat.le_trans (List.length_filter_le _ _) hll
  intro e
  induction e with
  | zero =>
    intro i hi κ ρ w hM hl hw hS om
    obtain rfl : i = l.length := by omega
    have oc := oc0.mid hM.2.1 hu
    refine Or.inr ⟨κ, ρ, w, fun ρ1 Q hQ => Lw.fin (fun K2 => ?_), fun κ1 Q hQ => Lw.fin (fun K2 => ?_), hM, hl, by rw [← fpos_end]; exact hw, hS⟩
    · simp (disch := omega) only [X_X10_changeAll_2_s, mI_c, hL.1, lT, lF, tT, tF, eF, pF, zT, m1F, vT, cI, true_and, and_true, true_implies, false_implies, not_false_eq_true, not_true_eq_false, forall_eq, implies_true, oc.1, bzT1]
      exact hQ
    · rw [fpos_end]
      simp (disch := omega) only [X_X12_changeAll_10_s, mI_m, hMM.1, lT, lF, tT, tF, eF, pF, zT, m1F, vT, cI, true_and, and_true, true_implies, false_implies, not_false_eq_true, not_true_eq_false, forall_eq, implies_true, om.1, bzT1]
      exact hQ
  | succ e ih =>
    intro i hi κ ρ w hM hl hw hS om
    have hU := hM.U hA0 hu
    have hSS := hM.S hA0 hu
    obtain ⟨⟨hC, hm⟩, fC, fM, hR, hY, hrc⟩ := id hM
    have z0 : ∀ a j, 1316 ≤ a → a ≤ 1325 → mI ρ a j = mI ρ0 a j := fun a j h1 h2 => fM.I (wfM_u h1 h2)
    have ho : mI ρ 1316 u = 1 := (z0 _ _ (by decide) (by decide)).trans ho0
    obtain ⟨-, o2, o3, o4, o5⟩ := hU.op hu ho
    have oc := oc0.mid fC hu
    have hil : i < l.length := by omega
    have hmem := (hlm _).mp (getD_mem hil)
    have oci := oc.2 i hil
    have ocn := oc.1
    have omn := om.1
    have hsk := @ChS.skip r0 r1 us κ ρ ρ0 u l st i hS
    generalize ek : l.getD i 0 = k at hmem oci hsk
    obtain ⟨hkl, hall⟩ := hmem
    have hall := of_decide_eq_true hall
    obtain ⟨t1, t2, t3, t4, t5, t6⟩ := o5 k hkl
    have es : mI ρ 1319 (60 * u + k) = st k := (z0 _ _ (by decide) (by decide)).trans (hst k hkl)
    rw [es] at t1
    have ech : ∀ m, chgM ρ (60 * u + k) m = chgM ρ0 (60 * u + k) m := fun m => by
      unfold chgM
      rw [z0 _ _ (by decide) (by decide), z0 _ _ (by decide) (by decide)]
    by_cases s3 : st k = 3
    · -- a dropped one: nothing
      have pf := fpos_f (p := nlB st) l i hil (by rw [ek]; unfold nlB; rw [decide_eq_true_iff, s3]; decide)
      rcases ih (i + 1) (by omega) κ ρ w hM hl (by rw [pf]; exact hw) (hsk (fun h => by rw [s3] at h; exact absurd h (by decide))) om with ⟨κ2, ρ2, b1, b2, b3⟩ | ⟨κ2, ρ2, w2, b1, b2, b3⟩
      all_goals rw [pf] at b2
      · refine Or.inl ⟨κ2, ρ2, fun ρ4 Q hQ => Lw.stp (fun K2 hK => ?_) (b1 ρ4 Q hQ), b2, b3⟩
        have e10 := (hS.2.1 k hkl s3).2
        have t31 : ((3 : Int32) = 1) = False := eq_false (by decide)
        simp (disch := omega) only [X_X10_changeAll_2_s, X_X10_changeAll_35, X_X10_changeAll_50, mI_c, mR_c, hL.1, hL.2.2, hC.1, lT, lF, tT, tF, eF, pF, zT, m1F, vT, cI, true_and, and_true, true_implies, false_implies, not_false_eq_true, not_true_eq_false, forall_eq, implies_true, ocn, oci, t1, s3, t31, e10, nI_1]
        exact hK
      · refine Or.inr ⟨κ2, ρ2, w2, fun ρ4 Q hQ => Lw.stp (fun K2 hK => ?_) (b1 ρ4 Q hQ), b2, b3⟩
        have e10 := (hS.2.1 k hkl s3).2
        have t31 : ((3 : Int32) = 1) = False := eq_false (by decide)
        simp (disch := omega) only [X_X10_changeAll_2_s, X_X10_changeAll_35, X_X10_changeAll_50, mI_c, mR_c, hL.1, hL.2.2, hC.1, lT, lF, tT, tF, eF, pF, zT, m1F, vT, cI, true_and, and_true, true_implies, false_implies, not_false_eq_true, not_true_eq_false, forall_eq, implies_true, ocn, oci, t1, s3, t31, e10, nI_1]
        exact hK
    · have s12 : st k = 1 ∨ st k = 2 := by
        rcases hall with h | h | h
        · exact Or.inl h
        · exact Or.inr h
        · exact absurd h s3
      obtain ⟨p1, p2, p3⟩ := fpos_t (p := nlB st) l i hil (by rw [ek]; exact decide_eq_true s12.symm)
      have omi := om.2 _ p2
      rw [p3, ek] at omi
      -- behind the bits
      have go : ∀ pb : Nat → Bool, (mI ρ0 1319 (60 * u + k) = 2 ∧ (∀ m, m < 16 → pb m = ofB ρ (60 * u + k) m) ∨ mI ρ0 1319 (60 * u + k) = 1 ∧ ∀ m, m < 16 → pb m = chgM ρ (60 * u + k) m) → (∀ ρ1 (Q : Int32 → Mem → Prop) (K2 : Int32 × Mem → Prop), X_X10_changeAll_35 G Q K2 1269 (nI i) (537 + 184 * u + 3 * k) (nI (bitsN pb 16)) (mg κ ρ1) → X_X10_changeAll_2_s G Q 1269 K2 (nI i, mg κ ρ1)) → (∀ κ1 (Q : Int32 → Mem → Prop) (K10 : Int32 × Mem → Prop), X_X12_changeAll_89 G Q K10 1282 (nI (fpos (nlB st) l i)) (nI (60 * u + k)) (nI (cntB pb 16)) (mg κ1 ρ) → X_X12_changeAll_10_s G Q 1282 K10 (nI (fpos (nlB st) l i), mg κ1 ρ)) →
          (∃ κ' ρ', (∀ ρ1 (Q : Int32 → Mem → Prop), Q 0 (mg κ' ρ1) → Lw (X_X10_changeAll_2_s G Q 1269) (nI i, mg κ ρ1)) ∧ (∀ κ1 (Q : Int32 → Mem → Prop), Q 0 (mg κ1 ρ') → Lw (X_X12_changeAll_10_s G Q 1282) (nI (fpos (nlB st) l i), mg κ1 ρ)) ∧ Brk u κ0 ρ0 κ' ρ') ∨
          (∃ κ' ρ' w', (∀ ρ1 (Q : Int32 → Mem → Prop), Q 1 (mg κ' ρ1) → Lw (X_X10_changeAll_2_s G Q 1269) (nI i, mg κ ρ1)) ∧ (∀ κ1 (Q : Int32 → Mem → Prop), Q 1 (mg κ1 ρ') → Lw (X_X12_changeAll_10_s G Q 1282) (nI (fpos (nlB st) l i), mg κ1 ρ)) ∧ Mid n mc rt K C u κ0 ρ0 N r0 κ' ρ' ∧ Log w' κ' ρ' ∧ w' ≤ w0 + (l.filter (nlB st)).length ∧ ChS us u st l ρ0 r1 r0 l.length κ' ρ') := by
        intro pb hpb rc rm
        have blt := bitsN_lt (p := pb) 16
        have cle := cntB_le (p := pb) 16
        have ez : bitsN pb 16 = 0 ↔ cntB pb 16 = 0 := by rw [bitsN_0, cntB_0]
        by_cases hz : bitsN pb 16 = 0
        · have hz2 := ez.mp hz
          have sC : ∀ ρ4 (Q : Int32 → Mem → Prop) (K2 : Int32 × Mem → Prop), K2 (nI (i + 1), mg κ ρ4) → X_X10_changeAll_2_s G Q 1269 K2 (nI i, mg κ ρ4) := fun ρ4 Q K2 hK => by
            refine rc ρ4 Q K2 ?_
            rw [hz]
            refine brT rfl ?_
            unfold X_X10_changeAll_50
            rw [nI_1]; exact hK
          have sM : ∀ κ4 (Q : Int32 → Mem → Prop) (K2 : Int32 × Mem → Prop), K2 (nI (fpos (nlB st) l (i + 1)), mg κ4 ρ) → X_X12_changeAll_10_s G Q 1282 K2 (nI (fpos (nlB st) l i), mg κ4 ρ) := fun κ4 Q K2 hK => by
            refine rm κ4 Q K2 ?_
            rw [hz2]
            refine brT (by decide) ?_
            unfold X_X12_changeAll_106
            rw [nI_1, ← p1]; exact hK
          have sk : st k = 1 → bitsN (chgM ρ0 (60 * u + k)) 16 = 0 := fun s1 => by
            rcases hpb with ⟨a1, a2⟩ | ⟨a1, a2⟩
            · rw [hst k hkl, s1] at a1; exact absurd a1 (by decide)
            · rw [← hz]; exact bitsN_cg 16 (fun m hm => by rw [a2 m hm, ech])
          rcases ih (i + 1) (by omega) κ ρ w hM hl (by rw [p1]; omega) (hsk sk) om with ⟨κ2, ρ2, b1, b2, b3⟩ | ⟨κ2, ρ2, w2, b1, b2, b3⟩
          · exact Or.inl ⟨κ2, ρ2, fun ρ4 Q hQ => Lw.stp (sC ρ4 Q) (b1 ρ4 Q hQ), fun κ4 Q hQ => Lw.stp (sM κ4 Q) (b2 κ4 Q hQ), b3⟩
          · exact Or.inr ⟨κ2, ρ2, w2, fun ρ4 Q hQ => Lw.stp (sC ρ4 Q) (b1 ρ4 Q hQ), fun κ4 Q hQ => Lw.stp (sM κ4 Q) (b2 κ4 Q hQ), b3⟩
        · have hz2 : cntB pb 16 ≠ 0 := fun h => hz (ez.mpr h)
          have stepC : ∀ ρ4 (Q : Int32 → Mem → Prop) (K2 : Int32 × Mem → Prop), X_X10_change G (fun w3 s2 => ((w3 = 0 → (bz (0 : Int32) ∧ Q (0 : Int32) s2)) ∧ (¬ w3 = 0 → X_X10_changeAll_50 G Q K2 1269 (nI i) s2))) 1269 (537 + 184 * u + 3 * k) (nI (bitsN pb 16)) (mg κ ρ4) → X_X10_changeAll_2_s G Q 1269 K2 (nI i, mg κ ρ4) := fun ρ4 Q K2 h => rc ρ4 Q K2 (brF (fun h => hz ((eI (b := 0) (by omega) (by decide)).mp h)) ⟨by simp only [hL.1], h⟩)
          have stepM : ∀ κ4 (Q : Int32 → Mem → Prop) (K10 : Int32 × Mem → Prop), X_X12_change G (fun w3 s2 => ((w3 = 0 → (bz (0 : Int32) ∧ Q (0 : Int32) s2)) ∧ (¬ w3 = 0 → X_X12_changeAll_106 G Q K10 1282 (nI (fpos (nlB st) l i)) s2))) 1282 (nI (60 * u + k)) (nI (cntB pb 16)) (mg κ4 ρ) → X_X12_changeAll_10_s G Q 1282 K10 (nI (fpos (nlB st) l i), mg κ4 ρ) := fun κ4 Q K10 h => rm κ4 Q K10 (brF (fun h => hz2 (by have := (lI (b := 0) (by omega) (by decide)).mp h; omega)) ⟨hMM.1, h⟩)
          have sk : st k = 2 ∨ st k = 1 ∧ bitsN (chgM ρ0 (60 * u + k)) 16 ≠ 0 := by
            rcases hpb with ⟨a1, a2⟩ | ⟨a1, a2⟩
            · rw [hst k hkl] at a1; exact Or.inl a1
            · rw [hst k hkl] at a1
              exact Or.inr ⟨a1, by rw [← bitsN_cg (p := pb) 16 (fun m hm => by rw [a2 m hm, ech])]; exact hz⟩
          rcases j_change hG hA0 hu ho0 hM hl (by omega) hkl (by rw [hst k hkl]; exact s12) (hcl k hkl s12) hpb with ⟨κ2, ρ2, a1, a2, a3⟩ | ⟨κ2, ρ2, a1, a2, a3, a4, a5, a6, a7, a8⟩
          · exact Or.inl ⟨κ2, ρ2, fun ρ4 Q hQ => Lw.fin (fun K2 => stepC ρ4 Q K2 (a1 ρ4 _ (br0 ⟨bz0, hQ⟩))), fun κ4 Q hQ => Lw.fin (fun K10 => stepM κ4 Q K10 (a2 κ4 _ (br0 ⟨bz0, hQ⟩))), a3⟩
          · have om' : OrdM ρ2 u (l.filter (nlB st)) := ⟨(a6.I (fun h => by omega)).trans om.1, fun j hj => (a6.I (fun h => by omega)).trans (om.2 j hj)⟩
            have sC : ∀ ρ4 (Q : Int32 → Mem → Prop) (K2 : Int32 × Mem → Prop), K2 (nI (i + 1), mg κ2 ρ4) → X_X10_changeAll_2_s G Q 1269 K2 (nI i, mg κ ρ4) := fun ρ4 Q K2 hK => by
              refine stepC ρ4 Q K2 (a1 ρ4 _ (br1 ?_))
              unfold X_X10_changeAll_50
              rw [nI_1]; exact hK
            have sM : ∀ κ4 (Q : Int32 → Mem → Prop) (K2 : Int32 × Mem → Prop), K2 (nI (fpos (nlB st) l (i + 1)), mg κ4 ρ2) → X_X12_changeAll_10_s G Q 1282 K2 (nI (fpos (nlB st) l i), mg κ4 ρ) := fun κ4 Q K2 hK => by
              refine stepM κ4 Q K2 (a2 κ4 _ (br1 ?_))
              unfold X_X12_changeAll_106
              rw [nI_1, ← p1]; exact hK
            rcases ih (i + 1) (by omega) κ2 ρ2 (w + 1) a3 a4 (by rw [p1]; omega) (hS.step hu h60 hkl sk ek a5 a6 a7 a8) om' with ⟨κ3, ρ3, b1, b2, b3⟩ | ⟨κ3, ρ3, w3, b1, b2, b3⟩
            · exact Or.inl ⟨κ3, ρ3, fun ρ4 Q hQ => Lw.stp (sC ρ4 Q) (b1 ρ4 Q hQ), fun κ4 Q hQ => Lw.stp (sM κ4 Q) (b2 κ4 Q hQ), b3⟩
            · exact Or.inr ⟨κ3, ρ3, w3, fun ρ4 Q hQ => Lw.stp (sC ρ4 Q) (b1 ρ4 Q hQ), fun κ4 Q hQ => Lw.stp (sM κ4 Q) (b2 κ4 Q hQ), b3⟩
      rcases s12 with s1 | s2
      · obtain ⟨f, f1, f2, c, c1, c2, c3, c4, -⟩ := hA0.liv hu ho0 hkl (Or.inl ((hst k hkl).trans s1))
        have h12 := hSS.le
        have c2' : mI ρ 1322 (60 * u + k) = nI c := (z0 _ _ (by decide) (by decide)).trans c2
        obtain ⟨-, -, -, -, ew, h16, -⟩ := hSS.cls c1
        have ecnt : cntB (chgM ρ (60 * u + k)) 16 = cntB (chgM ρ (60 * u + k)) (mc c) := cntB_ext 16 h16 (fun m m1 m2 => by
          rw [ech]
          exact decide_eq_false (fun h => h (by rw [(c4 m m1 m2).1, (c4 m m1 m2).2])))
        refine go (chgM ρ (60 * u + k)) (Or.inr ⟨(hst k hkl).trans s1, fun _ _ => rfl⟩) (fun ρ4 Q K2 h => ?_) (fun κ4 Q K10 h => ?_)
        · simp (disch := omega) only [X_X10_changeAll_2_s, mI_c, mR_c, hL.1, hL.2.2, hC.1, lT, lF, tT, tF, eF, pF, zT, m1F, vT, cI, true_and, and_true, true_implies, false_implies, not_false_eq_true, not_true_eq_false, forall_eq, implies_true, ocn, oci, t1, s1]
          exact c_changes hL hC hu (by omega) t6 h
        · rw [s1] at es
          simp (disch := omega) only [X_X12_changeAll_10_s, mI_m, mR_m, hMM.1, hMM.2, hm.1, hm.2, lT, lF, tT, tF, eF, pF, zT, m1F, vT, cI, true_and, and_true, true_implies, false_implies, not_false_eq_true, not_true_eq_false, forall_eq, implies_true, omn, omi, es, o2F]
          rw [ecnt] at h
          exact m_changed hMM hm (by omega) (by omega) c2' ew h16 h
      · have e10 := (hS.1 k hkl s2).2.1
        have t21 : ((2 : Int32) = 1) = False := eq_false (by decide)
        refine go (ofB ρ (60 * u + k)) (Or.inl ⟨(hst k hkl).trans s2, fun _ _ => rfl⟩) (fun ρ4 Q K2 h => ?_) (fun κ4 Q K10 h => ?_)
        · simp (disch := omega) only [X_X10_changeAll_2_s, mI_c, mR_c, hL.1, hL.2.2, hC.1, lT, lF, tT, tF, eF, pF, zT, m1F, vT, cI, true_and, and_true, true_implies, false_implies, not_false_eq_true, not_true_eq_false, forall_eq, implies_true, ocn, oci, t1, s2, t21, e10]
          exact h
        · rw [s2] at es
          simp (disch := omega) only [X_X12_changeAll_10_s, mI_m, mR_m, hMM.1, hMM.2, hm.1, hm.2, lT, lF, tT, tF, eF, pF, zT, m1F, vT, cI, true_and, and_true, true_implies, false_implies, not_false_eq_true, not_true_eq_false, forall_eq, implies_true, omn, omi, es]
          exact m_cnt41 hMM hm (by omega) h
end CHGALL
