section DELALL
variable {G : Lay} {nn sc n r0 r1 w : Nat} {mc rt hc K N N1 us : Nat → Nat} {κ κ' κ0 ρ ρ' ρ0 κ1 ρ1 : Mem} {u k f q : Nat} {l L : List Nat} {st : Nat → Int32} {rk : Nat → Nat} {C : Int32 → Int32 → Int32}
theorem cdP_cg (e : ∀ a j, 1283 ≤ a → a ≤ 1309 → mI ρ' a j = mI ρ a j) {x : Int32} {r : Nat} : cdP mc rt ρ' f x r ↔ cdP mc rt ρ f x r := by
  unfold cdP lmP
  simp (disch := decide) only [e]
/-- a dropped object that is not deleted yet; no other row leads to its row -/
def unD (ρ : Mem) (u k : Nat) : Prop := mI ρ 1319 (60 * u + k) = 3 ∧ mI ρ 1338 (60 * u + k) = 0
def frD (mc rt : Nat → Nat) (ρ : Mem) (r0 u k : Nat) : Prop := ∀ f, f < 12 → mI ρ 1320 (60 * u + k) = nI f → ∀ r, r < r0 → ¬ cdP mc rt ρ f (mI ρ 1321 (60 * u + k)) r
theorem c_nextDel (hG : Ly G) (hC : StC κ) (hS : RelS sc n mc rt hc κ ρ) (hU : RelU us κ ρ) (hR : RelR N r0 κ ρ) (hY : RowsW n r0 mc rt K ρ) (hB : RowsB n r0 ρ) (hu : u < 4) (ho : mI ρ 1316 u = 1) (oc : OrdC κ u l) (hll : l.length ≤ 60) (hl : ∀ k, k ∈ l → k < us u ∧ (mI ρ 1319 (60 * u + k) = 3 → ∃ f, f < 12 ∧ mI ρ 1320 (60 * u + k) = nI f)) (hI : ∀ j, j < us u → mI ρ 1319 (60 * u + j) = 3 → mI κ (537 + 184 * u + 3 * j) 9 = mI ρ 1338 (60 * u + j)) {Q : Nat → Mem → Prop}
    (kA : ∀ i, i < l.length → unD ρ u (l.getD i 0) → frD mc rt ρ r0 u (l.getD i 0) → (∀ j, j < i → ¬ (unD ρ u (l.getD j 0) ∧ frD mc rt ρ r0 u (l.getD j 0))) → Q (537 + 184 * u + 3 * l.getD i 0) (mg κ ρ1))
    (kB : (∀ j, j < l.length → ¬ (unD ρ u (l.getD j 0) ∧ frD mc rt ρ r0 u (l.getD j 0))) → X_X10_firstUnwritten G Q 1269 3 (mg κ ρ1)) : X_X10_nextDelete G Q 1269 (mg κ ρ1) := by
  have hL := hG.1
  have h12 := hS.le
  have h60 := (hU.op hu ho).1
  simp only [X_X10_nextDelete, X_X10_nextDelete_0, X_X10_nextDelete_2]
  refine Lw.nat l.length (fun i x => x = (nI i, mg κ ρ1) ∧ ∀ j, j < i → ¬ (unD ρ u (l.getD j 0) ∧ frD mc rt ρ r0 u (l.getD j 0))) ?_ 0 (by omega) _ ⟨rfl, fun j h => by omega⟩
  rintro K' i x hi ⟨rfl, h0⟩ hk'
  by_cases hlt : i < l.length
  · obtain ⟨hkl, hcl⟩ := hl _ (getD_mem hlt)
    have oci := oc.2 i hlt
    have ocn := oc.1
    have nxt : ¬ (unD ρ u (l.getD i 0) ∧ frD mc rt ρ r0 u (l.getD i 0)) → K' (nI (i + 1), mg κ ρ1) := fun hn => hk' _ hlt ⟨rfl, fun j hj => by
      by_cases e : j = i
      · rw [e]; exact hn
      · exact h0 j (by omega)⟩
    generalize ek : l.getD i 0 = k at hkl hcl oci nxt
    obtain ⟨t1, t2, t3, t4, t5, t6⟩ := (hU.op hu ho).2.2.2.2 k hkl
    simp (disch := omega) only [X_X10_nextDelete_2_s, X_X10_nextDelete_53, mI_c, mR_c, hL.1, hL.2.2, hC.1, lT, lF, tT, tF, eF, pF, zT, m1F, vT, cI, true_and, and_true, true_implies, false_implies, not_false_eq_true, not_true_eq_false, forall_eq, implies_true, ocn, oci, t1, t2, t3, nI_1]
    refine ⟨fun s3 => ?_, fun s3 => nxt (fun h => s3 h.1.1)⟩
    rw [hI k hkl s3]
    refine ⟨fun w0 => ?_, fun w0 => nxt (fun h => w0 h.1.2)⟩
    obtain ⟨f, f1, f2⟩ := hcl s3
    rw [f2]
    rcases leadCase (mc := mc) (rt := rt) hB h12 f (mI ρ 1321 (60 * u + k)) with hno | ⟨b, c, m0, hld⟩
    · refine c_leading0 hG hC hS hR hB f1 hno (brT rfl ?_)
      rw [← ek]
      refine kA i hlt ?_ ?_ h0
      · rw [ek]; exact ⟨s3, w0⟩
      · rw [ek]
        intro g g1 g2
        rw [show g = f from (eI (by omega) (by omega)).mp (g2.symm.trans f2)]
        exact hno
    · obtain ⟨b1, b2, b3, b4, b5, b6, b7⟩ := id hld
      have h16 := hS.m16 b2
      have hm0 := b6.1
      exact c_leading1 hG hC hS hR hB hY f1 b1 b2 b3 b4 b5 b6 b7 (brF (mI1 (by omega)) (nxt (fun h => h.2 f f1 f2 b b1 b4)))
  · obtain rfl : i = l.length := by omega
    simp (disch := omega) only [X_X10_nextDelete_2_s, mI_c, hL.1, lT, lF, tT, tF, eF, pF, zT, m1F, vT, cI, true_and, and_true, true_implies, false_implies, not_false_eq_true, not_true_eq_false, forall_eq, implies_true, oc.1]
    exact kB h0
def Pick (P : Nat → Prop) (L : List Nat) (u d : Nat) (y : Int32) : Prop := (y = -1 ∧ ∀ j, d ≤ j → j < L.length → ¬ P (L.getD j 0)) ∨ ∃ j, d ≤ j ∧ j < L.length ∧ y = nI (60 * u + L.getD j 0) ∧ P (L.getD j 0) ∧ ∀ j', d ≤ j' → j' < j → ¬ P (L.getD j' 0)
theorem Pick.hit {P : Nat → Prop} {d : Nat} (hd : d < L.length) (h : P (L.getD d 0)) : Pick P L u d (nI (60 * u + L.getD d 0)) := Or.inr ⟨d, Nat.le_refl _, hd, rfl, h, fun j' a b => by omega⟩
theorem Pick.miss {P : Nat → Prop} {d : Nat} {y : Int32} (h : ¬ P (L.getD d 0)) (hp : Pick P L u (d + 1) y) : Pick P L u d y := by
  rcases hp with ⟨a, b⟩ | ⟨j, j1, j2, j3, j4, j5⟩
  · refine Or.inl ⟨a, fun j h1 h2 => ?_⟩
    by_cases e : j = d
    · rw [e]; exact h
    · exact b j (by omega) h2
  · refine Or.inr ⟨j, by omega, j2, j3, j4, fun j' h1 h2 => ?_⟩
    by_cases e : j' = d
    · rw [e]; exact h
    · exact j5 j' (by omega) h2
theorem m_delPick (hM : LyM G) (hS : RelS sc n mc rt hc κ ρ) (hR : RelR N r0 κ ρ) (hY : RowsW n r0 mc rt K ρ) (hK : ∀ f, f < 12 → K f ≤ 512) (hu : u < 4) (h60 : us u ≤ 60) (om : OrdM ρ u L) (hLl : L.length ≤ 60) (hLm : ∀ k, k ∈ L → k < us u ∧ mI ρ 1319 (60 * u + k) = 3 ∧ ∃ f, f < 12 ∧ mI ρ 1320 (60 * u + k) = nI f) : ∀ d, d ≤ L.length → ∀ fi an ρc, StM ρc → Eqv (fun a j => ¬ (a = 1282 ∧ (j = 57 ∨ j = 58))) ρ ρc → Pick (fun k => unD ρ u k ∧ frD mc rt ρ r0 u k) L u d fi → Pick (fun k => unD ρ u k) L u d an →
    ∃ ρ' fi' an', StM ρ' ∧ Eqv (fun a j => ¬ (a = 1282 ∧ (j = 57 ∨ j = 58))) ρ ρ' ∧ Pick (fun k => unD ρ u k ∧ frD mc rt ρ r0 u k) L u 0 fi' ∧ Pick (fun k => unD ρ u k) L u 0 an' ∧ ∀ κ1 (Q : Int32 → Mem → Prop) (K35 : Int32 × Mem → Prop) (l2 : Int32), (∀ K, X_X12_deleteAll_52_s G Q K35 1282 l2 K (fi', an', -1, mg κ1 ρ')) → Lw (X_X12_deleteAll_52_s G Q K35 1282 l2) (fi, an, nI d + (-1), mg κ1 ρc) := by
  have h12 := hS.le
  have d0 : nI 0 + (-1) = -1 := by decide
  intro d
  induction d with
  | zero =>
    intro _ fi an ρc hm fr p1 p2
    refine ⟨ρc, fi, an, hm, fr, p1, p2, fun κ1 Q K35 l2 h => ?_⟩
    rw [d0]
    exact Lw.fin h
  | succ d ih =>
    intro hd fi an ρc hm fr p1 p2
    have hdl : d < L.length := by omega
    obtain ⟨hku, s3, f, f1, f2⟩ := hLm _ (getD_mem hdl)
    have zc : ∀ a j, a ≠ 1282 → mI ρc a j = mI ρ a j := fun a j h => fr.I (by omega)
    have omi : mI ρc 1334 d = nI (60 * u + L.getD d 0) := (zc _ _ (by decide)).trans (om.2 d hdl)
    generalize ek : L.getD d 0 = k at hku s3 f2 omi
    have e20 : mI ρc 1320 (60 * u + k) = nI f := (zc _ _ (by decide)).trans f2
    have e21 : mI ρc 1321 (60 * u + k) = mI ρ 1321 (60 * u + k) := zc _ _ (by decide)
    have e38 : mI ρc 1338 (60 * u + k) = mI ρ 1338 (60 * u + k) := zc _ _ (by decide)
    have hS' : RelS sc n mc rt hc κ ρc := hS.fr Eqv.rf (fr.mo fun a j z => by simp only [sM] at z; omega)
    have hR' : RelR N r0 κ ρc := hR.fr Eqv.rf (fr.mo fun a j z => by simp only [rM] at z; omega)
    have hY' : RowsW n r0 mc rt K ρc := hY.fr hS (fr.mo fun a j z => by simp only [rM] at z; omega) (fr.mo fun a j z => by simp only [sM] at z; omega)
    have hB' := hY'.b hK
    have cg : ∀ x r, cdP mc rt ρc f x r ↔ cdP mc rt ρ f x r := fun x r => cdP_cg (fun a j h1 h2 => zc a j (by omega))
    by_cases w0 : mI ρ 1338 (60 * u + k) = 0
    · rcases leadCase (mc := mc) (rt := rt) hB' h12 f (mI ρ 1321 (60 * u + k)) with hno | ⟨b, c, m0, hld⟩
      · have hfr : frD mc rt ρ r0 u k := fun g g1 g2 r hr => by
          rw [show g = f from (eI (by omega) (by omega)).mp (g2.symm.trans f2)]
          exact fun h => hno r hr ((cg _ _).mpr h)
        obtain ⟨ρ', fi', an', a1, a2, a3, a4, a5⟩ := ih (by omega) (nI (60 * u + k)) (nI (60 * u + k)) ρc hm fr (by rw [← ek]; exact Pick.hit hdl (by rw [ek]; exact ⟨⟨s3, w0⟩, hfr⟩)) (by rw [← ek]; exact Pick.hit hdl (by rw [ek]; exact ⟨s3, w0⟩))
        refine ⟨ρ', fi', an', a1, a2, a3, a4, fun κ1 Q K35 l2 h => Lw.stp (fun K52 hK => ?_) (a5 κ1 Q K35 l2 h)⟩
        rw [pk_m1]
        simp (disch := omega) only [X_X12_deleteAll_52_s, X_X12_deleteAll_107, mI_m, mR_m, hM.1, hM.2, hm.1, hm.2, lT, lF, tT, tF, eF, pF, zT, m1F, vT, cI, true_and, and_true, true_implies, false_implies, not_false_eq_true, not_true_eq_false, forall_eq, implies_true, omi, e38, w0, e20, e21]
        exact m_leadsTo hM hm hS' hR'.2.1 hR'.le hB' f1 (fun b c m0 b1 b2 b3 b4 => absurd b4 (hno b b1)) (fun _ => brF (by decide) hK)
      · obtain ⟨b1, b2, b3, b4, b5, b6, b7⟩ := id hld
        have hnf : ¬ frD mc rt ρ r0 u k := fun h => h f f1 f2 b b1 ((cg _ _).mp b4)
        have fr2 : Eqv (fun a j => ¬ (a = 1282 ∧ (j = 57 ∨ j = 58))) ρ (sI (sI ρc 1282 57 (nI m0)) 1282 58 2) := (fr.sI (by omega) _).sI (by omega) _
        have hr7 := hR'.le
        obtain ⟨ρ', fi', an', a1, a2, a3, a4, a5⟩ := ih (by omega) fi (nI (60 * u + k)) (sI (sI ρc 1282 57 (nI m0)) 1282 58 2) ((hm.wI _ _ _).wI _ _ _) fr2 (Pick.miss (by rw [ek]; exact fun h => hnf h.2) p1) (by rw [← ek]; exact Pick.hit hdl (by rw [ek]; exact ⟨s3, w0⟩))
        refine ⟨ρ', fi', an', a1, a2, a3, a4, fun κ1 Q K35 l2 h => Lw.stp (fun K52 hK => ?_) (a5 κ1 Q K35 l2 h)⟩
        rw [pk_m1]
        simp (disch := omega) only [X_X12_deleteAll_52_s, X_X12_deleteAll_107, mI_m, mR_m, hM.1, hM.2, hm.1, hm.2, lT, lF, tT, tF, eF, pF, zT, m1F, vT, cI, true_and, and_true, true_implies, false_implies, not_false_eq_true, not_true_eq_false, forall_eq, implies_true, omi, e38, w0, e20, e21]
        exact m_leadsTo1 hM hm hS' hR' hY' hB' f1 hld (brT (Int32.not_lt.mp (pI (by omega))) hK)
    · obtain ⟨ρ', fi', an', a1, a2, a3, a4, a5⟩ := ih (by omega) fi an ρc hm fr (Pick.miss (by rw [ek]; exact fun h => w0 h.1.2) p1) (Pick.miss (by rw [ek]; exact fun h => w0 h.2) p2)
      refine ⟨ρ', fi', an', a1, a2, a3, a4, fun κ1 Q K35 l2 h => Lw.stp (fun K52 hK => ?_) (a5 κ1 Q K35 l2 h)⟩
      rw [pk_m1]
      simp (disch := omega) only [X_X12_deleteAll_52_s, X_X12_deleteAll_107, mI_m, mR_m, hM.1, hM.2, hm.1, hm.2, lT, lF, tT, tF, eF, pF, zT, m1F, vT, cI, true_and, and_true, true_implies, false_implies, not_false_eq_true, not_true_eq_false, forall_eq, implies_true, omi, e38, w0]
      exact hK
/-- what is known at the end: who was written, and that there are rows for them -/
def FinS (us : Nat → Nat) (u : Nat) (st : Nat → Int32) (ρ0 : Mem) (r1 r0 : Nat) (κ ρ : Mem) : Prop :=
  (∀ k, k < us u → st k = 2 → mI κ (537 + 184 * u + 3 * k) 9 = 1 ∧ hasR r0 ρ (mI ρ0 1320 (60 * u + k)) (mI ρ0 1321 (60 * u + k))) ∧
  (∀ k, k < us u → st k = 1 → (bitsN (chgM ρ0 (60 * u + k)) 16 = 0 → mI κ (537 + 184 * u + 3 * k) 9 = 0) ∧ (bitsN (chgM ρ0 (60 * u + k)) 16 ≠ 0 → mI κ (537 + 184 * u + 3 * k) 9 = 1 ∧ hasR r0 ρ (mI ρ0 1320 (60 * u + k)) (mI ρ0 1321 (60 * u + k)))) ∧
  (∀ r, r < r0 → (∃ r', r' < r1 ∧ mI ρ 1305 r = mI ρ0 1305 r' ∧ mI ρ 1306 r = mI ρ0 1306 r') ∨ newK us ρ0 u (mI ρ 1305 r) (mI ρ 1306 r))
def cdB (st : Nat → Int32) (ρ : Mem) (u k : Nat) : Bool := decide (st k = 3) && decide (mI ρ 1338 (60 * u + k) = 0)
theorem j_delLoop (hG : Ly G) (hnn : nn ≤ 512) (hX : Ctx nn sc n mc rt hc K N1 r1 us κ0 ρ0 u st l C) {total w1 : Nat} (ht : w1 + total ≤ 120) : ∀ d i, i + d = total → ∀ κ ρ N r0 w, Mid n mc rt K C u κ0 ρ0 N r0 κ ρ → Log w κ ρ → w ≤ w1 + i → FinS us u st ρ0 r1 r0 κ ρ → (∀ k, k < us u → st k = 3 → mI κ (537 + 184 * u + 3 * k) 9 = mI ρ 1338 (60 * u + k)) → OrdM ρ u (l.filter (drB st)) → cntB (cdB st ρ u) (us u) = d →
    (∃ κ' ρ', (∀ ρ1 (Q : Int32 → Mem → Prop), Q 0 (mg κ' ρ1) → Lw (X_X10_deleteAll_8_s G Q 1269 (nI total)) (nI i, mg κ ρ1)) ∧ (∀ κ1 (Q : Int32 → Mem → Prop), Q 0 (mg κ1 ρ') → Lw (X_X12_deleteAll_35_s G Q 1282) (nI d, mg κ1 ρ)) ∧ Brk u κ0 ρ0 κ' ρ') ∨
    (∃ κ' ρ' N' r0' w', (∀ ρ1 (Q : Int32 → Mem → Prop), Q 1 (mg κ' ρ1) → Lw (X_X10_deleteAll_8_s G Q 1269 (nI total)) (nI i, mg κ ρ1)) ∧ (∀ κ1 (Q : Int32 → Mem → Prop), Q 1 (mg κ1 ρ') → Lw (X_X12_deleteAll_35_s G Q 1282) (nI d, mg κ1 ρ)) ∧ Mid n mc rt K C u κ0 ρ0 N' r0' κ' ρ' ∧ Log w' κ' ρ' ∧ w' ≤ 120 ∧ FinS us u st ρ0 r1 r0' κ' ρ') := by
  have hL := hG.1
  have hMM := hG.2.2.2
  obtain ⟨hA0, hu, ho0, hst, hlm, hll, oc0, hcl, -⟩ := id hX
  have h60 : us u ≤ 60 := (hA0.2.2.2.2.2.2.2.1.op hu ho0).1
  have uq0 : ∀ a b, a < us u → b < us u → mI ρ0 1320 (60 * u + a) = mI ρ0 1320 (60 * u + b) → mI ρ0 1321 (60 * u + a) = mI ρ0 1321 (60 * u + b) → a = b := fun a b ha hb e1 e2 => hA0.2.2.2.2.2.2.2.2.2.2.2.2.1 u hu ho0 a b ha hb e1 e2
  have hK5 : ∀ f, f < 12 → K f ≤ 512 := fun f hf => by have := (hA0.2.2.2.2.2.1 f hf).2.2; omega
  have pl : (l.filter (drB st)).length ≤ 60 := Nat.le_trans (List.length_filter_le _ _) hll
  intro d
  induction d with
  | zero =>
    intro i hi κ ρ N r0 w hM hl hw hF hD om hc
    obtain rfl : i = total := by omega
    exact Or.inr ⟨κ, ρ, N, r0, w, fun ρ1 Q hQ => Lw.fin (fun K2 => brT (Int32.le_refl _) ⟨bz1, hQ⟩), fun κ1 Q hQ => Lw.fin (fun K2 => brT (by decide) ⟨bz1, hQ⟩), hM, hl, by omega, hF⟩
  | succ d ih =>
    intro i hi κ ρ N r0 w hM hl hw hF hD om hc
    have hS := hM.S hA0 hu
    have hU := hM.U hA0 hu
    obtain ⟨⟨hC, hm⟩, fC, fM, hR, hY, hrc⟩ := id hM
    have z0 : ∀ a j, 1316 ≤ a → a ≤ 1325 → mI ρ a j = mI ρ0 a j := fun a j h1 h2 => fM.I (wfM_u h1 h2)
    have ho : mI ρ 1316 u = 1 := (z0 _ _ (by decide) (by decide)).trans ho0
    obtain ⟨-, o2, o3, o4, o5⟩ := hU.op hu ho
    have oc := oc0.mid fC hu
    have hB := hY.b hK5
    have hst' : ∀ k, k < us u → mI ρ 1319 (60 * u + k) = st k := fun k hk => (z0 _ _ (by decide) (by decide)).trans (hst k hk)
    have hlu : ∀ k, k ∈ l → k < us u := fun k hk => ((hlm k).mp hk).1
    have fam : ∀ k, k < us u → mI ρ 1319 (60 * u + k) = 3 → ∃ f, f < 12 ∧ mI ρ 1320 (60 * u + k) = nI f := fun k hk e => by
      obtain ⟨c, f, x, c1, c2, c3, c4, c5, -⟩ := hA0.lv3 hu ho0 hk (Or.inr (Or.inr ((z0 _ _ (by decide) (by decide)).symm.trans e)))
      exact ⟨f, c4, (z0 _ _ (by decide) (by decide)).trans c5⟩
    have hLm : ∀ k, k ∈ l.filter (drB st) → k < us u ∧ mI ρ 1319 (60 * u + k) = 3 ∧ ∃ f, f < 12 ∧ mI ρ 1320 (60 * u + k) = nI f := fun k hk => by
      obtain ⟨a1, a2⟩ := List.mem_filter.mp hk
      have hk2 := hlu k a1
      have e2 : mI ρ 1319 (60 * u + k) = 3 := (hst' k hk2).trans (of_decide_eq_true a2)
      exact ⟨hk2, e2, fam k hk2 e2⟩
    have hI9 : ∀ j, j < us u → mI ρ 1319 (60 * u + j) = 3 → mI κ (537 + 184 * u + 3 * j) 9 = mI ρ 1338 (60 * u + j) := fun j hj e => hD j hj ((hst' j hj).symm.trans e)
    have getl : ∀ i, i < l.length → l.getD i 0 < us u := fun i hi => hlu _ (getD_mem hi)
    have getL : ∀ j, j < (l.filter (drB st)).length → (l.filter (drB st)).getD j 0 < us u := fun j hj => (hLm _ (getD_mem hj)).1
    -- the reference's choice
    obtain ⟨ρp, fi, an, hmp, frp, pk1, pk2, runp⟩ := m_delPick hMM hS hR hY hK5 hu h60 om pl hLm (l.filter (drB st)).length (Nat.le_refl _) (-1) (-1) ρ hm Eqv.rf (Or.inl ⟨rfl, fun j h1 h2 => by omega⟩) (Or.inl ⟨rfl, fun j h1 h2 => by omega⟩)
    have hMp : Mid n mc rt K C u κ0 ρ0 N r0 κ ρp := ⟨⟨hC, hmp⟩, fC, fM.tr (frp.mo fun a j z h => z (by omega)), hR.fr Eqv.rf (frp.mo fun a j z => by simp only [rM] at z; omega), hY.fr hS (frp.mo fun a j z => by simp only [rM] at z; omega) (frp.mo fun a j z => by simp only [sM] at z; omega), fun r hr => by
      rw [frp.I (by omega), frp.I (by omega), frp.I (by omega)]; exact hrc r hr⟩
    have hlp : Log w κ ρp := hl.fr Eqv.rf (frp.mo fun a j z => by simp only [wM] at z; omega)
    have zp : ∀ a j, a ≠ 1282 → mI ρp a j = mI ρ a j := fun a j h => frp.I (by omega)
    -- behind the choice of k
    have go : ∀ k, k < us u → unD ρ u k → (∀ ρ1 (Q : Nat → Mem → Prop), Q (537 + 184 * u + 3 * k) (mg κ ρ1) → X_X10_nextDelete G Q 1269 (mg κ ρ1)) → (∀ κ1 (Q : Int32 → Mem → Prop) (K35 : Int32 × Mem → Prop) (l2 : Int32), X_X12_deleteAll_123 G Q K35 1282 l2 (nI (60 * u + k)) (mg κ1 ρp) → ∀ K, X_X12_deleteAll_52_s G Q K35 1282 l2 K (fi, an, -1, mg κ1 ρp)) →
        (∃ κ' ρ', (∀ ρ1 (Q : Int32 → Mem → Prop), Q 0 (mg κ' ρ1) → Lw (X_X10_deleteAll_8_s G Q 1269 (nI total)) (nI i, mg κ ρ1)) ∧ (∀ κ1 (Q : Int32 → Mem → Prop), Q 0 (mg κ1 ρ') → Lw (X_X12_deleteAll_35_s G Q 1282) (nI (d + 1), mg κ1 ρ)) ∧ Brk u κ0 ρ0 κ' ρ') ∨
        (∃ κ' ρ' N' r0' w', (∀ ρ1 (Q : Int32 → Mem → Prop), Q 1 (mg κ' ρ1) → Lw (X_X10_deleteAll_8_s G Q 1269 (nI total)) (nI i, mg κ ρ1)) ∧ (∀ κ1 (Q : Int32 → Mem → Prop), Q 1 (mg κ1 ρ') → Lw (X_X12_deleteAll_35_s G Q 1282) (nI (d + 1), mg κ1 ρ)) ∧ Mid n mc rt K C u κ0 ρ0 N' r0' κ' ρ' ∧ Log w' κ' ρ' ∧ w' ≤ 120 ∧ FinS us u st ρ0 r1 r0' κ' ρ') := by
      intro k hk un rc rm
      have s3 : st k = 3 := (hst' k hk).symm.trans un.1
      have s30 : mI ρ0 1319 (60 * u + k) = 3 := (hst k hk).trans s3
      have stepC : ∀ ρ1 (Q : Int32 → Mem → Prop) (K8 : Int32 × Mem → Prop), X_X10_delete G (fun w5 s4 => ((w5 = 0 → (bz (0 : Int32) ∧ Q (0 : Int32) s4)) ∧ (¬ w5 = 0 → X_X10_deleteAll_32 G Q K8 1269 (nI total) (nI i) s4))) 1269 (537 + 184 * u + 3 * k) (mg κ ρ1) → X_X10_deleteAll_8_s G Q 1269 (nI total) K8 (nI i, mg κ ρ1) := fun ρ1 Q K8 h => by
        refine brF (fun h => by have := (lI (by omega) (by omega)).mp h; omega) ⟨by simp only [hL.1], ?_⟩
        exact rc ρ1 _ (brF (by omega) h)
      have stepM : ∀ κ1 (Q : Int32 → Mem → Prop) (K35 : Int32 × Mem → Prop), X_X12_deleteAll_123 G Q K35 1282 (nI (d + 1)) (nI (60 * u + k)) (mg κ1 ρp) → X_X12_deleteAll_35_s G Q 1282 K35 (nI (d + 1), mg κ1 ρ) := fun κ1 Q K35 h => by
        refine brF (fun h => by have := (lI (b := 0) (by omega) (by omega)).mp h; omega) ⟨hMM.1, ?_⟩
        rw [mI_m (by decide), om.1]
        have := runp κ1 Q K35 (nI (d + 1)) (rm κ1 Q K35 _ h)
        unfold X_X12_deleteAll_52
        rw [show nI (l.filter (drB st)).length - 1 = nI (l.filter (drB st)).length + (-1) from by
          have hpos : 0 < (l.filter (drB st)).length := by
            rcases Nat.eq_zero_or_pos (l.filter (drB st)).length with h0 | h0
            · exfalso
              have hkm : k ∈ l.filter (drB st) := List.mem_filter.mpr ⟨(hlm k).mpr ⟨hk, decide_eq_true (Or.inr (Or.inr s3))⟩, decide_eq_true s3⟩
              rw [List.length_eq_zero_iff.mp h0] at hkm
              cases hkm
            · exact h0
          rw [s1I hpos, d1I hpos]]
        exact this
      rcases j_delete hG hA0 hnn hu ho0 hMp hlp (by omega) hk s30 with ⟨κ', ρ', a1, a2, a3⟩ | ⟨κ', ρ', N', a1, a2, a3, a4, a5, a6, a7, a8, a9, a10⟩
      · exact Or.inl ⟨κ', ρ', fun ρ1 Q hQ => Lw.fin (fun K8 => stepC ρ1 Q K8 (a1 ρ1 _ (br0 ⟨bz0, hQ⟩))), fun κ1 Q hQ => Lw.fin (fun K35 => stepM κ1 Q K35 (a2 κ1 Q K35 _ hQ)), a3⟩
      · have c9 : ∀ j, j < us u → j ≠ k → mI κ' (537 + 184 * u + 3 * j) 9 = mI κ (537 + 184 * u + 3 * j) 9 := fun j hj hne => a5.I (fun h => by omega)
        have m38 : ∀ j, j < us u → j ≠ k → mI ρ' 1338 (60 * u + j) = mI ρ 1338 (60 * u + j) := fun j hj hne => (a6.I (fun h => by omega)).trans (zp _ _ (by decide))
        have hasp : ∀ F X, hasR r0 ρ F X → hasR r0 ρp F X := by
          rintro F X ⟨r, r1, r2, r3⟩
          exact ⟨r, r1, (zp _ _ (by decide)).trans r2, (zp _ _ (by decide)).trans r3⟩
        have hasq : ∀ j, j < us u → j ≠ k → hasR r0 ρ (mI ρ0 1320 (60 * u + j)) (mI ρ0 1321 (60 * u + j)) → hasR (r0 - 1) ρ' (mI ρ0 1320 (60 * u + j)) (mI ρ0 1321 (60 * u + j)) := fun j hj hne h => a9 _ _ (hasp _ _ h) (fun hh => hne (uq0 j k hj hk hh.1 hh.2))
        have hF' : FinS us u st ρ0 r1 (r0 - 1) κ' ρ' := by
          obtain ⟨f1, f2, f3⟩ := hF
          refine ⟨fun j hj s2 => ?_, fun j hj s1 => ?_, fun r hr => ?_⟩
          · have hne : j ≠ k := fun e => by rw [e, s3] at s2; exact absurd s2 (by decide)
            obtain ⟨b1, b2⟩ := f1 j hj s2
            exact ⟨by rw [c9 j hj hne]; exact b1, hasq j hj hne b2⟩
          · have hne : j ≠ k := fun e => by rw [e, s3] at s1; exact absurd s1 (by decide)
            obtain ⟨b1, b2⟩ := f2 j hj s1
            rw [c9 j hj hne]
            exact ⟨b1, fun h => ⟨(b2 h).1, hasq j hj hne (b2 h).2⟩⟩
          · obtain ⟨s, s1, s2, s3⟩ := a10 r hr
            rw [s2, s3, zp _ _ (by decide), zp _ _ (by decide)]
            exact f3 s s1
        have hD' : ∀ j, j < us u → st j = 3 → mI κ' (537 + 184 * u + 3 * j) 9 = mI ρ' 1338 (60 * u + j) := fun j hj sj => by
          by_cases e : j = k
          · rw [e, a7, a8]
          · rw [c9 j hj e, m38 j hj e]; exact hD j hj sj
        have om' : OrdM ρ' u (l.filter (drB st)) := ⟨(a6.I (fun h => by omega)).trans ((frp.I (by omega)).trans om.1), fun j hj => (a6.I (fun h => by omega)).trans ((zp _ _ (by decide)).trans (om.2 j hj))⟩
        have hc' : cntB (cdB st ρ' u) (us u) = d := by
          have := cntB_dec (p := cdB st ρ u) (p' := fun j => if j < us u then cdB st ρ' u j else cdB st ρ u j) (j := k) (by unfold cdB; rw [decide_eq_true s3, decide_eq_true un.2]; rfl) (by
            show (if k < us u then cdB st ρ' u k else _) = false
            rw [if_pos hk]; unfold cdB; rw [a8, decide_eq_false (show ¬ (1 : Int32) = 0 by decide), Bool.and_false]) (fun j hj => by
            show (if j < us u then cdB st ρ' u j else cdB st ρ u j) = _
            by_cases h : j < us u
            · rw [if_pos h]; unfold cdB; rw [m38 j h hj]
            · rw [if_neg h]) (us u) hk
          rw [cntB_cg (p := fun j => if j < us u then cdB st ρ' u j else cdB st ρ u j) (q := cdB st ρ' u) (us u) (fun j hj => if_pos hj)] at this
          omega
        have e1 : nI i + 1 = nI (i + 1) := nI_1 i
        have e2 : nI (d + 1) + (-1) = nI d := pk_m1 d
        have sC : ∀ ρ4 (Q : Int32 → Mem → Prop) (K8 : Int32 × Mem → Prop), K8 (nI (i + 1), mg κ' ρ4) → X_X10_deleteAll_8_s G Q 1269 (nI total) K8 (nI i, mg κ ρ4) := fun ρ4 Q K8 hK => by
          refine stepC ρ4 Q K8 (a1 ρ4 _ (br1 ?_))
          unfold X_X10_deleteAll_32
          rw [e1]; exact hK
        have sM : ∀ κ4 (Q : Int32 → Mem → Prop) (K35 : Int32 × Mem → Prop), K35 (nI d, mg κ4 ρ') → X_X12_deleteAll_35_s G Q 1282 K35 (nI (d + 1), mg κ4 ρ) := fun κ4 Q K35 hK => stepM κ4 Q K35 (a2 κ4 Q K35 _ (by rw [e2]; exact hK))
        rcases ih (i + 1) (by omega) κ' ρ' N' (r0 - 1) (w + 1) a3 a4 (by omega) hF' hD' om' hc' with ⟨κ2, ρ2, b1, b2, b3⟩ | ⟨κ2, ρ2, N2, r2, w2, b1, b2, b3⟩
        · exact Or.inl ⟨κ2, ρ2, fun ρ1 Q hQ => Lw.stp (sC ρ1 Q) (b1 ρ1 Q hQ), fun κ1 Q hQ => Lw.stp (sM κ1 Q) (b2 κ1 Q hQ), b3⟩
        · exact Or.inr ⟨κ2, ρ2, N2, r2, w2, fun ρ1 Q hQ => Lw.stp (sC ρ1 Q) (b1 ρ1 Q hQ), fun κ1 Q hQ => Lw.stp (sM κ1 Q) (b2 κ1 Q hQ), b3⟩
    rcases first_in (l := l) (p := drB st) (P := fun k => k < us u ∧ unD ρ u k ∧ frD mc rt ρ r0 u k) (fun k h => decide_eq_true ((hst' k h.1).symm.trans h.2.1.1)) with ⟨i1, j1, p1, p2, p3, p4, p5, p6⟩ | ⟨q1, q2⟩
    · refine go (l.getD i1 0) p4.1 p4.2.1 (fun ρ1 Q hQ => ?_) (fun κ1 Q K35 l2 h K => ?_)
      · refine c_nextDel hG hC hS hU hR hY hB hu ho oc hll (fun k hk => ⟨hlu k hk, fam k (hlu k hk)⟩) hI9 (fun i' a1 a2 a3 a4 => ?_) (fun h => absurd p4.2 (h i1 p1))
        have ei : i' = i1 := by
          by_cases h : i' < i1
          · exact absurd ⟨getl i' a1, a2, a3⟩ (p5 i' h)
          · by_cases h2 : i1 < i'
            · exact absurd p4.2 (a4 i1 h2)
            · omega
        rw [ei]; exact hQ
      · have ef : fi = nI (60 * u + l.getD i1 0) := by
          rcases pk1 with ⟨-, b2⟩ | ⟨j, j1', j2, j3, j4, j5⟩
          · have := b2 j1 (Nat.zero_le _) p2
            rw [p3] at this
            exact absurd p4.2 this
          · have ej : j = j1 := by
              by_cases h : j < j1
              · exact absurd ⟨getL j j2, j4⟩ (p6 j h)
              · by_cases h2 : j1 < j
                · have := j5 j1 (Nat.zero_le _) h2
                  rw [p3] at this
                  exact absurd p4.2 this
                · omega
            rw [j3, ej, p3]
        rw [ef]
        have := p4.1
        exact brT (by decide) (brT (Int32.not_lt.mp (pI (by omega))) h)
    · have n0 : ∀ j, j < l.length → ¬ (unD ρ u (l.getD j 0) ∧ frD mc rt ρ r0 u (l.getD j 0)) := fun j h1 h2 => q1 j h1 ⟨getl j h1, h2⟩
      rcases first_in (l := l) (p := drB st) (P := fun k => k < us u ∧ unD ρ u k) (fun k h => decide_eq_true ((hst' k h.1).symm.trans h.2.1)) with ⟨i1, j1, p1, p2, p3, p4, p5, p6⟩ | ⟨q5, q6⟩
      · have hk60 : l.getD i1 0 < 60 := by have := p4.1; omega
        have s3 : st (l.getD i1 0) = 3 := (hst' _ p4.1).symm.trans p4.2.1
        refine go (l.getD i1 0) p4.1 p4.2 (fun ρ1 Q hQ => ?_) (fun κ1 Q K35 l2 h K => ?_)
        · refine c_nextDel hG hC hS hU hR hY hB hu ho oc hll (fun k hk => ⟨hlu k hk, fam k (hlu k hk)⟩) hI9 (fun i' a1 a2 a3 a4 => absurd ⟨a2, a3⟩ (n0 i' a1)) (fun _ => ?_)
          refine c_firstUn hG hC hu oc hll (fun k hk => by have := hlu k hk; omega) p1 ⟨(o5 _ p4.1).1.trans p4.2.1, by rw [hD _ p4.1 s3]; exact p4.2.2⟩ (fun j hj hh => ?_) hQ
          have hjl : j < l.length := by omega
          have hju := getl j hjl
          have s3 : mI ρ 1319 (60 * u + l.getD j 0) = 3 := (o5 _ hju).1.symm.trans hh.1
          exact p5 j hj ⟨hju, s3, (hI9 _ hju s3).symm.trans hh.2⟩
        · have ef : fi = -1 := by
            rcases pk1 with ⟨b1, -⟩ | ⟨j, j1', j2, j3, j4, j5⟩
            · exact b1
            · exact absurd ⟨getL j j2, j4⟩ (q2 j j2)
          have ea : an = nI (60 * u + l.getD i1 0) := by
            rcases pk2 with ⟨-, b2⟩ | ⟨j, j1', j2, j3, j4, j5⟩
            · have := b2 j1 (Nat.zero_le _) p2
              rw [p3] at this
              exact absurd p4.2 this
            · have ej : j = j1 := by
                by_cases h : j < j1
                · exact absurd ⟨getL j j2, j4⟩ (p6 j h)
                · by_cases h2 : j1 < j
                  · have := j5 j1 (Nat.zero_le _) h2
                    rw [p3] at this
                    exact absurd p4.2 this
                  · omega
              rw [j3, ej, p3]
          rw [ef, ea]
          exact brT (by decide) (brF (by decide) h)
      · exfalso
        have : cntB (cdB st ρ u) (us u) = 0 := (cntB_0 _).mpr (fun k hk => by
          cases hb : cdB st ρ u k
          · rfl
          · unfold cdB at hb
            rw [Bool.and_eq_true] at hb
            have b1 := of_decide_eq_true hb.1
            have b2 := of_decide_eq_true hb.2
            obtain ⟨i', e1, e2⟩ : ∃ i', i' < l.length ∧ l.getD i' 0 = k := by
              obtain ⟨i', h1, h2⟩ := List.getElem_of_mem ((hlm k).mpr ⟨hk, decide_eq_true (Or.inr (Or.inr b1))⟩)
              exact ⟨i', h1, by rw [List.getD_eq_getElem?_getD, List.getElem?_eq_getElem h1]; exact h2⟩
            have q := q5 i' e1
            rw [e2] at q
            exact absurd ⟨hk, (hst' k hk).trans b1, b2⟩ q)
        omega
end DELALL
