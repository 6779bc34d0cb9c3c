section INSLOOP
variable {G : Lay} {nn sc n r0 r1 w : Nat} {mc rt hc K N N1 us : Nat → Nat} {κ κ' κ0 ρ ρ' ρ0 κ1 ρ1 : Mem} {u k f : Nat} {l L : List Nat} {st : Nat → Int32} {C : Int32 → Int32 → Int32}
/-- what is fixed while a unit is written -/
def Ctx (nn sc n : Nat) (mc rt hc K N1 : Nat → Nat) (r1 : Nat) (us : Nat → Nat) (κ0 ρ0 : Mem) (u : Nat) (st : Nat → Int32) (l : List Nat) (C : Int32 → Int32 → Int32) : Prop :=
  RelA nn sc n mc rt hc K N1 r1 us κ0 ρ0 ∧ u < 4 ∧ mI ρ0 1316 u = 1 ∧ (∀ k, k < us u → mI ρ0 1319 (60 * u + k) = st k) ∧ (∀ k, k ∈ l ↔ k < us u ∧ sAll st k = true) ∧ l.length ≤ 60 ∧ OrdC κ0 u l ∧ (∀ k, k < us u → (st k = 1 ∨ st k = 2) → mI ρ0 1322 (60 * u + k) = C (mI ρ0 1320 (60 * u + k)) (mI ρ0 1321 (60 * u + k))) ∧ (∀ p : Nat → Bool, (l.filter p).length = cntB (fun k => sAll st k && p k) (us u))
theorem OrdC.mid (h : OrdC κ0 u l) (e : Eqv (wfC u) κ0 κ) (hu : u < 4) : OrdC κ u l := ⟨(e.I (by rintro (h | h | h | ⟨j, h1, h2, h3⟩) <;> omega)).trans h.1, fun i hi => (e.R (by rintro (h | h | h | ⟨j, h1, h2, h3⟩) <;> omega)).trans (h.2 i hi)⟩
theorem j_insLoop (hG : Ly G) (hX : Ctx nn sc n mc rt hc K N1 r1 us κ0 ρ0 u st l C) {total : Nat} (ht : total ≤ 60) : ∀ d i, i + d = total → ∀ κ ρ N r0 w, Mid n mc rt K C u κ0 ρ0 N r0 κ ρ → Log w κ ρ → w ≤ i → InsS us u st ρ0 r1 r0 κ ρ → OrdM ρ u (l.filter (nwB st)) → cntB (cuB st ρ u) (us u) = d →
    (∃ κ' ρ', (∀ ρ1 (Q : Int32 → Mem → Prop), Q 0 (mg κ' ρ1) → Lw (X_X10_insertAll_8_s G Q 1269 (533 + 184 * u) (nI total)) (nI i, mg κ ρ1)) ∧ (∀ κ1 (Q : Int32 → Mem → Prop), Q 0 (mg κ1 ρ') → Lw (X_X12_insertAll_57_s G Q 1282) (nI d, mg κ1 ρ)) ∧ Brk u κ0 ρ0 κ' ρ') ∨
    (∃ κ' ρ' N' r0' w', (∀ ρ1 (Q : Int32 → Mem → Prop), Q 1 (mg κ' ρ1) → Lw (X_X10_insertAll_8_s G Q 1269 (533 + 184 * u) (nI total)) (nI i, mg κ ρ1)) ∧ (∀ κ1 (Q : Int32 → Mem → Prop), Q 1 (mg κ1 ρ') → Lw (X_X12_insertAll_57_s G Q 1282) (nI d, mg κ1 ρ)) ∧ Mid n mc rt K C u κ0 ρ0 N' r0' κ' ρ' ∧ Log w' κ' ρ' ∧ w' ≤ total ∧ InsS us u st ρ0 r1 r0' κ' ρ' ∧ cntB (cuB st ρ' u) (us u) = 0) := by
  have hL := hG.1
  have hMM := hG.2.2.2
  obtain ⟨hA0, hu, ho0, hst, hlm, hll, oc0, hcl, -⟩ := hX
  have h60 : us u ≤ 60 := (hA0.2.2.2.2.2.2.2.1.op hu ho0).1
  have uq0 : ∀ a b, a < us u → b < us u → mI ρ0 1320 (60 * u + a) = mI ρ0 1320 (60 * u + b) → mI ρ0 1321 (60 * u + a) = mI ρ0 1321 (60 * u + b) → a = b := fun a b ha hb e1 e2 => hA0.2.2.2.2.2.2.2.2.2.2.2.2.1 u hu ho0 a b ha hb e1 e2
  intro d
  induction d with
  | zero =>
    intro i hi κ ρ N r0 w hM hl hw hI om hc
    obtain rfl : i = total := by omega
    refine Or.inr ⟨κ, ρ, N, r0, w, fun ρ1 Q hQ => Lw.fin (fun K2 => brT (Int32.le_refl _) ⟨bz1, hQ⟩), fun κ1 Q hQ => Lw.fin (fun K2 => brT (by decide) ⟨bz1, hQ⟩), hM, hl, hw, hI, hc⟩
  | succ d ih =>
    intro i hi κ ρ N r0 w hM hl hw hI om hc
    have hS := hM.S hA0 hu
    have hU := hM.U hA0 hu
    obtain ⟨⟨hC, hm⟩, fC, fM, hR, hY, hrc⟩ := id hM
    have z0 : ∀ a j, 1316 ≤ a → a ≤ 1325 → mI ρ a j = mI ρ0 a j := fun a j h1 h2 => fM.I (wfM_u h1 h2)
    have zs : ∀ a j, 1283 ≤ a → a ≤ 1304 → mI ρ a j = mI ρ0 a j := fun a j h1 h2 => fM.I (wfM_s h1 h2)
    have ho : mI ρ 1316 u = 1 := (z0 _ _ (by decide) (by decide)).trans ho0
    obtain ⟨-, o2, o3, o4, o5⟩ := hU.op hu ho
    have oc := oc0.mid fC hu
    have uq : ∀ a b, a < us u → b < us u → mI ρ 1320 (60 * u + a) = mI ρ 1320 (60 * u + b) → mI ρ 1321 (60 * u + a) = mI ρ 1321 (60 * u + b) → a = b := fun a b ha hb e1 e2 => by
      rw [z0 _ _ (by decide) (by decide), z0 _ _ (by decide) (by decide)] at e1 e2
      exact uq0 a b ha hb e1 e2
    have hst' : ∀ k, k < us u → mI ρ 1319 (60 * u + k) = st k := fun k hk => (z0 _ _ (by decide) (by decide)).trans (hst k hk)
    have hlu : ∀ k, k ∈ l → k < us u := fun k hk => ((hlm k).mp hk).1
    have cls : ∀ k, k < us u → mI ρ 1319 (60 * u + k) = 2 → ∃ c, c < n ∧ mI ρ 1322 (60 * u + k) = nI c := fun k hk e => by
      obtain ⟨c, f, x, c1, c2, -⟩ := hA0.lv3 hu ho0 hk (Or.inr (Or.inl ((z0 _ _ (by decide) (by decide)).symm.trans e)))
      exact ⟨c, c1, (z0 _ _ (by decide) (by decide)).trans c2⟩
    have pl : (l.filter (nwB st)).length ≤ 60 := Nat.le_trans (List.length_filter_le _ _) hll
    have hLm : ∀ k, k ∈ l.filter (nwB st) → k < us u ∧ mI ρ 1319 (60 * u + k) = 2 ∧ ∃ c, c < n ∧ mI ρ 1322 (60 * u + k) = nI c := fun k hk => by
      obtain ⟨a1, a2⟩ := List.mem_filter.mp hk
      have hk2 := hlu k a1
      have e2 : mI ρ 1319 (60 * u + k) = 2 := (hst' k hk2).trans (of_decide_eq_true a2)
      exact ⟨hk2, e2, cls k hk2 e2⟩
    have hI9 : ∀ j, j < us u → mI ρ 1319 (60 * u + j) = 2 → mI κ (537 + 184 * u + 3 * j) 9 = mI ρ 1335 (60 * u + j) := fun j hj e => (hI.1 j hj ((hst' j hj).symm.trans e)).1
    -- behind the choice of k
    have go : ∀ k κb, k < us u → unI ρ u k → Mid n mc rt K C u κ0 ρ0 N r0 κb ρ → Log w κb ρ → Eqv (fun a j => ¬ (a = 537 + 184 * u + 3 * k ∧ j = 10)) κ κb → mI κb (537 + 184 * u + 3 * k) 10 = nI (bitsN (wtB us mc rt ρ u k) 16) → (∀ c m, c < 12 → mI ρ0 1322 (60 * u + k) = nI c → m < mc c → wt us mc rt ρ u k m → mI ρ0 1294 (16 * c + m) &&& 2 = 0) →
        (∀ ρ1 (Q : Nat → Mem → Prop), Q (537 + 184 * u + 3 * k) (mg κb ρ1) → X_X10_nextInsert G Q 1269 (533 + 184 * u) (mg κ ρ1)) → (∀ κ1 (Q : Int32 → Mem → Prop) (K57 : Int32 × Mem → Prop) (l2 : Int32), X_X12_insertAll_143 G Q K57 1282 l2 (nI (60 * u + k)) (mg κ1 ρ) → X_X12_insertAll_66 G Q K57 1282 l2 (-1) 0 (mg κ1 ρ)) →
        (∃ κ' ρ', (∀ ρ1 (Q : Int32 → Mem → Prop), Q 0 (mg κ' ρ1) → Lw (X_X10_insertAll_8_s G Q 1269 (533 + 184 * u) (nI total)) (nI i, mg κ ρ1)) ∧ (∀ κ1 (Q : Int32 → Mem → Prop), Q 0 (mg κ1 ρ') → Lw (X_X12_insertAll_57_s G Q 1282) (nI (d + 1), mg κ1 ρ)) ∧ Brk u κ0 ρ0 κ' ρ') ∨
        (∃ κ' ρ' N' r0' w', (∀ ρ1 (Q : Int32 → Mem → Prop), Q 1 (mg κ' ρ1) → Lw (X_X10_insertAll_8_s G Q 1269 (533 + 184 * u) (nI total)) (nI i, mg κ ρ1)) ∧ (∀ κ1 (Q : Int32 → Mem → Prop), Q 1 (mg κ1 ρ') → Lw (X_X12_insertAll_57_s G Q 1282) (nI (d + 1), mg κ1 ρ)) ∧ Mid n mc rt K C u κ0 ρ0 N' r0' κ' ρ' ∧ Log w' κ' ρ' ∧ w' ≤ total ∧ InsS us u st ρ0 r1 r0' κ' ρ' ∧ cntB (cuB st ρ' u) (us u) = 0) := by
      intro k κb hk un hMb hlb fb ub nm rc rm
      have s2 : st k = 2 := (hst' k hk).symm.trans un.1
      have s20 : mI ρ0 1319 (60 * u + k) = 2 := (hst k hk).trans s2
      have nr : ∀ r, r < r0 → ¬ (mI ρ 1305 r = mI ρ0 1320 (60 * u + k) ∧ mI ρ 1306 r = mI ρ0 1321 (60 * u + k)) := by
        rcases (hI.1 k hk s2).2.2 with ⟨-, -, h⟩ | ⟨h, -⟩
        · exact h
        · rw [un.2] at h; exact absurd h (by decide)
      have stepC : ∀ ρ1 (Q : Int32 → Mem → Prop) (K8 : Int32 × Mem → Prop), X_X10_insert G (fun w5 s4 => ((w5 = 0 → (bz (0 : Int32) ∧ Q (0 : Int32) s4)) ∧ (¬ w5 = 0 → K8 ((nI i + (1 : Int32)), s4)))) 1269 (537 + 184 * u + 3 * k) (mg κb ρ1) → X_X10_insertAll_8_s G Q 1269 (533 + 184 * u) (nI total) K8 (nI i, mg κ ρ1) := fun ρ1 Q K8 h => by
        refine brF (fun h => by have := (lI (by omega) (by omega)).mp h; omega) ⟨by simp only [hL.1], ?_⟩
        exact rc ρ1 _ (brF (by omega) h)
      have stepM : ∀ κ1 (Q : Int32 → Mem → Prop) (K57 : Int32 × Mem → Prop), X_X12_insert G (fun w3 s2 => ((w3 = 0 → (bz (0 : Int32) ∧ Q (0 : Int32) s2)) ∧ (¬ w3 = 0 → K57 ((nI (d + 1) + (-1 : Int32)), s2)))) 1282 (nI (60 * u + k)) (mg κ1 ρ) → X_X12_insertAll_57_s G Q 1282 K57 (nI (d + 1), mg κ1 ρ) := fun κ1 Q K57 h => by
        refine brF (fun h => by have := (lI (b := 0) (by omega) (by omega)).mp h; omega) ?_
        refine rm κ1 Q K57 _ ?_
        exact brT (Int32.not_lt.mp (pI (by omega))) ⟨hMM.1, h⟩
      rcases j_insert hG hA0 hu ho0 hMb hlb (by omega) hk s20 (hcl k hk (Or.inr s2)) nr ub nm with ⟨κ', ρ', a1, a2, a3⟩ | ⟨κ', ρ', N', a1, a2, a3, a4, a5, a6, a7, a8, a9, a10, a11, a12⟩
      · exact Or.inl ⟨κ', ρ', fun ρ1 Q hQ => Lw.fin (fun K8 => stepC ρ1 Q K8 (a1 ρ1 _ (br0 ⟨bz0, hQ⟩))), fun κ1 Q hQ => Lw.fin (fun K57 => stepM κ1 Q K57 (a2 κ1 _ (br0 ⟨bz0, hQ⟩))), a3⟩
      · have hI' := hI.step hu h60 hk s2 s20 uq0 ((fb.mo fun a j h => h.2).tr (a5.mo fun a j h => h.1)) a6 (by rw [a5.I (fun h => by omega)]; exact ub) a7 a8 a9 a10 a11 a12
        have om' : OrdM ρ' u (l.filter (nwB st)) := ⟨(a6.I (fun h => by omega)).trans om.1, fun j hj => (a6.I (fun h => by omega)).trans (om.2 j hj)⟩
        have hc' : cntB (cuB st ρ' u) (us u) = d := by
          have := cntB_dec (p := cuB st ρ u) (p' := fun j => if j < us u then cuB st ρ' u j else cuB st ρ u j) (j := k) (by unfold cuB; rw [decide_eq_true s2, decide_eq_true un.2]; rfl) (by
            show (if k < us u then cuB st ρ' u k else _) = false
            rw [if_pos hk]; unfold cuB; rw [a8, decide_eq_false (show ¬ (1 : Int32) = 0 by decide), Bool.and_false]) (fun j hj => by
            show (if j < us u then cuB st ρ' u j else cuB st ρ u j) = _
            by_cases h : j < us u
            · rw [if_pos h]; unfold cuB; rw [a6.I (a := 1335) (fun h => by omega)]
            · rw [if_neg h]) (us u) hk
          rw [cntB_cg (p := fun j => if j < us u then cuB st ρ' u j else cuB st ρ u j) (q := cuB st ρ' u) (us u) (fun j hj => if_pos hj)] at this
          omega
        have e1 : nI i + 1 = nI (i + 1) := nI_1 i
        have e2 : nI (d + 1) + (-1) = nI d := pk_m1 d
        rcases ih (i + 1) (by omega) κ' ρ' N' (r0 + 1) (w + 1) a3 a4 (by omega) hI' om' hc' with ⟨κ2, ρ2, b1, b2, b3⟩ | ⟨κ2, ρ2, N2, r2, w2, b1, b2, b3⟩
        · exact Or.inl ⟨κ2, ρ2, fun ρ1 Q hQ => Lw.stp (fun K8 hK => stepC ρ1 Q K8 (a1 ρ1 _ (br1 (by rw [e1]; exact hK)))) (b1 ρ1 Q hQ), fun κ1 Q hQ => Lw.stp (fun K57 hK => stepM κ1 Q K57 (a2 κ1 _ (br1 (by rw [e2]; exact hK)))) (b2 κ1 Q hQ), b3⟩
        · exact Or.inr ⟨κ2, ρ2, N2, r2, w2, fun ρ1 Q hQ => Lw.stp (fun K8 hK => stepC ρ1 Q K8 (a1 ρ1 _ (br1 (by rw [e1]; exact hK)))) (b1 ρ1 Q hQ), fun κ1 Q hQ => Lw.stp (fun K57 hK => stepM κ1 Q K57 (a2 κ1 _ (br1 (by rw [e2]; exact hK)))) (b2 κ1 Q hQ), b3⟩
    have getl : ∀ i, i < l.length → l.getD i 0 < us u := fun i hi => hlu _ (getD_mem hi)
    have getL : ∀ j, j < (l.filter (nwB st)).length → (l.filter (nwB st)).getD j 0 < us u := fun j hj => (hLm _ (getD_mem hj)).1
    rcases first_in (l := l) (p := nwB st) (P := fun k => k < us u ∧ ch0 us mc rt ρ u k) (fun k h => decide_eq_true ((hst' k h.1).symm.trans h.2.1.1)) with ⟨i1, j1, p1, p2, p3, p4, p5, p6⟩ | ⟨q1, q2⟩
    · -- one that waits for none
      have bz : bitsN (wtB us mc rt ρ u (l.getD i1 0)) 16 = 0 := (bitsN_0 16).mpr (fun m _ => dP_f (p4.2.2 m))
      have un := p4.2.1
      refine go (l.getD i1 0) κ p4.1 un hM hl Eqv.rf ?_ (fun c m _ _ _ hw => absurd hw (p4.2.2 m)) (fun ρ1 Q hQ => ?_) (fun κ1 Q K57 l2 h => ?_)
      · have s2 : st (l.getD i1 0) = 2 := (hst' _ p4.1).symm.trans un.1
        obtain ⟨-, a2, a3⟩ := hI.1 _ p4.1 s2
        rw [a2, bz]
        rcases a3 with ⟨-, b2, -⟩ | ⟨b1, -⟩
        · rw [(bitsN_0 (p := ofB ρ (60 * u + l.getD i1 0)) 16).mpr (fun m hm => decide_eq_false (fun h => h (b2 m hm)))]
        · rw [un.2] at b1; exact absurd b1 (by decide)
      · refine c_nextInsert hG hC hS hU hu ho oc hll (fun k hk => ⟨hlu k hk, cls k (hlu k hk)⟩) uq hI9 (fun i' a1 a2 a3 => ?_) (fun h => absurd p4.2 (h i1 p1)) (fun h => absurd p4.2 (h i1 p1))
        have ei : i' = i1 := by
          by_cases h : i' < i1
          · exact absurd ⟨getl i' a1, a2⟩ (p5 i' h)
          · by_cases h2 : i1 < i'
            · exact absurd p4.2 (a3 i1 h2)
            · omega
        rw [ei]; exact hQ
      · refine m_choose hMM hm hS hu h60 o3 om pl hLm uq (fun j' a1 a2 a3 => ?_) (fun hh => absurd p4.2 (by have := hh j1 p2; rw [p3] at this; exact this)) (fun hh => absurd p4.2 (by have := hh j1 p2; rw [p3] at this; exact this))
        have ej : j' = j1 := by
          by_cases h : j' < j1
          · exact absurd ⟨getL j' a1, a2⟩ (p6 j' h)
          · by_cases h2 : j1 < j'
            · have := a3 j1 h2
              rw [p3] at this
              exact absurd p4.2 this
            · omega
        rw [ej, p3]; exact h
    · have n0 : ∀ j, j < l.length → ¬ ch0 us mc rt ρ u (l.getD j 0) := fun j h1 h2 => q1 j h1 ⟨getl j h1, h2⟩
      have m0 : ∀ j, j < (l.filter (nwB st)).length → ¬ ch0 us mc rt ρ u ((l.filter (nwB st)).getD j 0) := fun j h1 h2 => q2 j h1 ⟨getL j h1, h2⟩
      rcases first_in (l := l) (p := nwB st) (P := fun k => k < us u ∧ ch1 us mc rt ρ u k) (fun k h => decide_eq_true ((hst' k h.1).symm.trans h.2.1.1)) with ⟨i1, j1, p1, p2, p3, p4, p5, p6⟩ | ⟨q3, q4⟩
      · -- one whose references are put off
        have hk60 : l.getD i1 0 < 60 := by have := p4.1; omega
        refine go (l.getD i1 0) (sI κ (537 + 184 * u + 3 * l.getD i1 0) 10 (nI (bitsN (wtB us mc rt ρ u (l.getD i1 0)) 16))) p4.1 p4.2.1 (hM.c10 hu hk60 _) (hl.fr (Eqv.wI (by simp only [wC]; omega) _) Eqv.rf) (Eqv.wI (fun h => h ⟨rfl, rfl⟩) _) (I_is _ _ _ _) (fun c m a1 a2 a3 a4 => ?_) (fun ρ1 Q hQ => ?_) (fun κ1 Q K57 l2 h => ?_)
        · have := p4.2.2.2 c m a1 ((z0 _ _ (by decide) (by decide)).trans a2) a3 a4
          rw [zs _ _ (by decide) (by decide)] at this
          exact this
        · refine c_nextInsert hG hC hS hU hu ho oc hll (fun k hk => ⟨hlu k hk, cls k (hlu k hk)⟩) uq hI9 (fun i' a1 a2 a3 => absurd a2 (n0 i' a1)) (fun _ i' a1 a2 a3 => ?_) (fun _ h => absurd p4.2 (h i1 p1))
          have ei : i' = i1 := by
            by_cases h : i' < i1
            · exact absurd ⟨getl i' a1, a2⟩ (p5 i' h)
            · by_cases h2 : i1 < i'
              · exact absurd p4.2 (a3 i1 h2)
              · omega
          rw [ei]; exact hQ
        · refine m_choose hMM hm hS hu h60 o3 om pl hLm uq (fun j' a1 a2 a3 => absurd a2 (m0 j' a1)) (fun _ j' a1 a2 a3 => ?_) (fun _ hh => absurd p4.2 (by have := hh j1 p2; rw [p3] at this; exact this))
          have ej : j' = j1 := by
            by_cases h : j' < j1
            · exact absurd ⟨getL j' a1, a2⟩ (p6 j' h)
            · by_cases h2 : j1 < j'
              · have := a3 j1 h2
                rw [p3] at this
                exact absurd p4.2 this
              · omega
          rw [ej, p3]; exact h
      · -- a circle
        have n1 : ∀ j, j < l.length → ¬ ch1 us mc rt ρ u (l.getD j 0) := fun j h1 h2 => q3 j h1 ⟨getl j h1, h2⟩
        have m1 : ∀ j, j < (l.filter (nwB st)).length → ¬ ch1 us mc rt ρ u ((l.filter (nwB st)).getD j 0) := fun j h1 h2 => q4 j h1 ⟨getL j h1, h2⟩
        rcases first_in (l := l) (p := nwB st) (P := fun k => k < us u ∧ unI ρ u k) (fun k h => decide_eq_true ((hst' k h.1).symm.trans h.2.1)) with ⟨i1, j1, p1, p2, p3, p4, p5, p6⟩ | ⟨q5, q6⟩
        · have hk60 : l.getD i1 0 < 60 := by have := p4.1; omega
          have s2 : st (l.getD i1 0) = 2 := (hst' _ p4.1).symm.trans p4.2.1
          obtain ⟨t1, -, t3, t4, -⟩ := o5 _ p4.1
          refine Or.inl ⟨brkC κ (537 + 184 * u + 3 * l.getD i1 0) 4 (-1) (-1), endM ρ (60 * u + l.getD i1 0) 4, fun ρ1 Q hQ => Lw.fin (fun K8 => ?_), fun κ1 Q hQ => Lw.fin (fun K57 => ?_), Brk.ends hC hm fC fM hl (by omega) t3 t4 (by decide)⟩
          · refine brF (fun h => by have := (lI (by omega) (by omega)).mp h; omega) ⟨by simp only [hL.1], ?_⟩
            refine c_nextInsert hG hC hS hU hu ho oc hll (fun k hk => ⟨hlu k hk, cls k (hlu k hk)⟩) uq hI9 (fun i' a1 a2 a3 => absurd a2 (n0 i' a1)) (fun _ i' a1 a2 a3 => absurd a2 (n1 i' a1)) (fun _ _ => brT rfl ?_)
            refine c_firstUn hG hC hu oc hll (fun k hk => by have := hlu k hk; omega) p1 ⟨t1.trans p4.2.1, by rw [(hI.1 _ p4.1 s2).1]; exact p4.2.2⟩ (fun j hj hh => ?_) (c_breakOff hL hu hk60 ⟨bz0, hQ⟩)
            have hjl : j < l.length := by omega
            have hju := getl j hjl
            have s2 : mI ρ 1319 (60 * u + l.getD j 0) = 2 := (o5 _ hju).1.symm.trans hh.1
            exact p5 j hj ⟨hju, s2, (hI9 _ hju s2).symm.trans hh.2⟩
          · refine brF (fun h => by have := (lI (b := 0) (by omega) (by omega)).mp h; omega) ?_
            refine m_choose hMM hm hS hu h60 o3 om pl hLm uq (fun j' a1 a2 a3 => absurd a2 (m0 j' a1)) (fun _ j' a1 a2 a3 => absurd a2 (m1 j' a1)) (fun _ _ => brF (by decide) ⟨hMM.1, ?_⟩)
            rw [mI_m (by decide), om.1]
            refine m_lastUn hMM hm hu om pl (fun k hk => by have := (hLm k hk).1; omega) p2 (by rw [p3]; exact p4.2.2) (fun j hj hh => ?_) (by rw [p3]; exact hQ)
            have hjL : j < (l.filter (nwB st)).length := by omega
            exact p6 j hj ⟨getL j hjL, (hLm _ (getD_mem hjL)).2.1, hh⟩
        · exfalso
          have : cntB (cuB st ρ u) (us u) = 0 := (cntB_0 _).mpr (fun k hk => by
            cases hb : cuB st ρ u k
            · rfl
            · unfold cuB at hb
              rw [Bool.and_eq_true] at hb
              have b1 := of_decide_eq_true hb.1
              have b2 := of_decide_eq_true hb.2
              obtain ⟨i', e1, e2⟩ : ∃ i', i' < l.length ∧ l.getD i' 0 = k := by
                obtain ⟨i', h1, h2⟩ := List.getElem_of_mem ((hlm k).mpr ⟨hk, decide_eq_true (Or.inr (Or.inl b1))⟩)
                exact ⟨i', h1, by rw [List.getD_eq_getElem?_getD, List.getElem?_eq_getElem h1]; exact h2⟩
              have q := q5 i' e1
              rw [e2] at q
              exact absurd ⟨hk, (hst' k hk).trans b1, b2⟩ q)
          omega
end INSLOOP
