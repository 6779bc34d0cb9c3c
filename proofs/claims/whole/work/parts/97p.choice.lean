section CHOICE
variable {G : Lay} {nn sc n r0 r1 w : Nat} {mc rt hc K N N1 us : Nat → Nat} {κ κ' κ0 ρ ρ' ρ0 κ1 ρ1 : Mem} {u k f : Nat} {l L : List Nat}
theorem fpos_ex {p : Nat → Bool} (l : List Nat) : ∀ i j, i ≤ l.length → j < fpos p l i → ∃ i', i' < i ∧ (l.filter p).getD j 0 = l.getD i' 0 := by
  intro i
  induction i with
  | zero => intro j _ h; rw [fpos_0] at h; omega
  | succ i ih =>
    intro j hi h
    by_cases e : p (l.getD i 0) = true
    · obtain ⟨a1, a2, a3⟩ := fpos_t l i (by omega) e
      rw [a1] at h
      by_cases ej : j = fpos p l i
      · exact ⟨i, by omega, by rw [ej]; exact a3⟩
      · obtain ⟨i', b1, b2⟩ := ih j (by omega) (by omega)
        exact ⟨i', by omega, b2⟩
    · rw [fpos_f l i (by omega) e] at h
      obtain ⟨i', b1, b2⟩ := ih j (by omega) h
      exact ⟨i', by omega, b2⟩
/-- the first of a list for which something holds, and the first of the list of some of it -/
theorem first_in {p : Nat → Bool} {P : Nat → Prop} (hP : ∀ k, P k → p k = true) : (∃ i j, i < l.length ∧ j < (l.filter p).length ∧ (l.filter p).getD j 0 = l.getD i 0 ∧ P (l.getD i 0) ∧ (∀ i', i' < i → ¬ P (l.getD i' 0)) ∧ ∀ j', j' < j → ¬ P ((l.filter p).getD j' 0)) ∨ ((∀ i, i < l.length → ¬ P (l.getD i 0)) ∧ ∀ j, j < (l.filter p).length → ¬ P ((l.filter p).getD j 0)) := by
  by_cases h : ∃ i, i < l.length ∧ P (l.getD i 0)
  · obtain ⟨i, ⟨h1, h2⟩, h3⟩ := pk_least _ h
    obtain ⟨a1, a2, a3⟩ := fpos_t (p := p) l i h1 (hP _ h2)
    refine Or.inl ⟨i, fpos p l i, h1, a2, a3, h2, fun i' hi' h4 => h3 i' hi' ⟨by omega, h4⟩, fun j' hj' h4 => ?_⟩
    obtain ⟨i', b1, b2⟩ := fpos_ex l i j' (by omega) hj'
    rw [b2] at h4
    exact h3 i' b1 ⟨by omega, h4⟩
  · refine Or.inr ⟨fun i h1 h2 => h ⟨i, h1, h2⟩, fun j h1 h2 => ?_⟩
    obtain ⟨i', b1, b2⟩ := fpos_ex (p := p) l l.length j (Nat.le_refl _) (by rw [fpos_end]; exact h1)
    rw [b2] at h2
    exact h ⟨i', b1, h2⟩
/-- a new object that is not inserted yet: waiting for none; waiting, but for none that must be -/
def unI (ρ : Mem) (u k : Nat) : Prop := mI ρ 1319 (60 * u + k) = 2 ∧ mI ρ 1335 (60 * u + k) = 0
def ch0 (us mc rt : Nat → Nat) (ρ : Mem) (u k : Nat) : Prop := unI ρ u k ∧ ∀ m, ¬ wt us mc rt ρ u k m
def ch1 (us mc rt : Nat → Nat) (ρ : Mem) (u k : Nat) : Prop := unI ρ u k ∧ (∃ m, wt us mc rt ρ u k m) ∧ ∀ c m, c < 12 → mI ρ 1322 (60 * u + k) = nI c → m < mc c → wt us mc rt ρ u k m → mI ρ 1294 (16 * c + m) &&& 2 = 0
theorem wt_lt (hS : RelS sc n mc rt hc κ ρ) {c m : Nat} (hc1 : c < n) (ec : mI ρ 1322 (60 * u + k) = nI c) (h : wt us mc rt ρ u k m) : m < mc c := by
  have h12 := hS.le
  obtain ⟨c', t, k', a1, a2, a3, -⟩ := h
  rw [(eI (by omega) (by omega)).mp (a2.symm.trans ec)] at a3
  exact a3
theorem c_nextInsert (hG : Ly G) (hC : StC κ) (hS : RelS sc n mc rt hc κ ρ) (hU : RelU us κ ρ) (hu : u < 4) (ho : mI ρ 1316 u = 1) (oc : OrdC κ u l) (hll : l.length ≤ 60) (hl : ∀ k, k ∈ l → k < us u ∧ (mI ρ 1319 (60 * u + k) = 2 → ∃ c, c < n ∧ mI ρ 1322 (60 * u + k) = nI c)) (uq : ∀ a b, a < us u → b < us u → mI ρ 1320 (60 * u + a) = mI ρ 1320 (60 * u + b) → mI ρ 1321 (60 * u + a) = mI ρ 1321 (60 * u + b) → a = b) (hI : ∀ j, j < us u → mI ρ 1319 (60 * u + j) = 2 → mI κ (537 + 184 * u + 3 * j) 9 = mI ρ 1335 (60 * u + j)) {Q : Nat → Mem → Prop}
    (kA : ∀ i, i < l.length → ch0 us mc rt ρ u (l.getD i 0) → (∀ j, j < i → ¬ ch0 us mc rt ρ u (l.getD j 0)) → Q (537 + 184 * u + 3 * l.getD i 0) (mg κ ρ1))
    (kB : (∀ j, j < l.length → ¬ ch0 us mc rt ρ u (l.getD j 0)) → ∀ i, i < l.length → ch1 us mc rt ρ u (l.getD i 0) → (∀ j, j < i → ¬ ch1 us mc rt ρ u (l.getD j 0)) → Q (537 + 184 * u + 3 * l.getD i 0) (mg (sI κ (537 + 184 * u + 3 * l.getD i 0) 10 (nI (bitsN (wtB us mc rt ρ u (l.getD i 0)) 16))) ρ1))
    (kC : (∀ j, j < l.length → ¬ ch0 us mc rt ρ u (l.getD j 0)) → (∀ j, j < l.length → ¬ ch1 us mc rt ρ u (l.getD j 0)) → Q 0 (mg κ ρ1)) : X_X10_nextInsert G Q 1269 (533 + 184 * u) (mg κ ρ1) := by
  have hL := hG.1
  have h12 := hS.le
  have h60 := (hU.op hu ho).1
  simp only [X_X10_nextInsert, X_X10_nextInsert_0, X_X10_nextInsert_7]
  refine Lw.nat l.length (fun i x => ∃ nx po, x = (nx, po, nI i, mg κ ρ1) ∧ (∀ j, j < i → ¬ ch0 us mc rt ρ u (l.getD j 0)) ∧ (nx = 0 ∧ (∀ j, j < i → ¬ ch1 us mc rt ρ u (l.getD j 0)) ∨ ∃ i1, i1 < i ∧ ch1 us mc rt ρ u (l.getD i1 0) ∧ (∀ j, j < i1 → ¬ ch1 us mc rt ρ u (l.getD j 0)) ∧ nx = 537 + 184 * u + 3 * l.getD i1 0 ∧ po = nI (bitsN (wtB us mc rt ρ u (l.getD i1 0)) 16))) ?_ 0 (by omega) _ ⟨0, 0, rfl, fun j h => by omega, Or.inl ⟨rfl, fun j h => by omega⟩⟩
  rintro K' i x hi ⟨nx, po, rfl, h0, h1⟩ hk'
  by_cases hlt : i < l.length
  · obtain ⟨hkl, hcl⟩ := hl _ (getD_mem hlt)
    have oci := oc.2 i hlt
    have ocn := oc.1
    have nxt : ∀ (hn0 : ¬ ch0 us mc rt ρ u (l.getD i 0)) (nx' : Nat) (po' : Int32), (nx' = nx ∧ po' = po ∧ (nx = 0 → ¬ ch1 us mc rt ρ u (l.getD i 0)) ∨ nx = 0 ∧ ch1 us mc rt ρ u (l.getD i 0) ∧ nx' = 537 + 184 * u + 3 * l.getD i 0 ∧ po' = nI (bitsN (wtB us mc rt ρ u (l.getD i 0)) 16)) → K' (nx', po', nI (i + 1), mg κ ρ1) := by
      intro hn0 nx' po' hh
      refine hk' _ hlt ⟨nx', po', rfl, fun j hj => ?_, ?_⟩
      · by_cases e : j = i
        · rw [e]; exact hn0
        · exact h0 j (by omega)
      · rcases hh with ⟨rfl, rfl, hh⟩ | ⟨e, a1, a2, a3⟩
        · rcases h1 with ⟨b1, b2⟩ | ⟨i1, b1, b2, b3, b4, b5⟩
          · refine Or.inl ⟨b1, fun j hj => ?_⟩
            by_cases e : j = i
            · rw [e]; exact hh b1
            · exact b2 j (by omega)
          · exact Or.inr ⟨i1, by omega, b2, b3, b4, b5⟩
        · rcases h1 with ⟨b1, b2⟩ | ⟨i1, b1, b2, b3, b4, b5⟩
          · exact Or.inr ⟨i, by omega, a1, b2, a2, a3⟩
          · omega
    generalize ek : l.getD i 0 = k at hkl hcl oci nxt
    obtain ⟨t1, t2, t3, t4, t5, t6⟩ := (hU.op hu ho).2.2.2.2 k hkl
    simp (disch := omega) only [X_X10_nextInsert_7_s, X_X10_nextInsert_80, mI_c, mR_c, hL.1, hL.2.2, hC.1, lT, lF, tT, tF, eF, pF, zT, m1F, vT, cI, true_and, and_true, true_implies, false_implies, not_false_eq_true, not_true_eq_false, forall_eq, implies_true, ocn, oci, t1, nI_1]
    refine ⟨fun s2 => ?_, fun s2 => nxt (fun h => s2 h.1.1) nx po (Or.inl ⟨rfl, rfl, fun _ h => s2 h.1.1⟩)⟩
    rw [hI k hkl s2]
    refine ⟨fun w0 => ?_, fun w0 => nxt (fun h => w0 h.1.2) nx po (Or.inl ⟨rfl, rfl, fun _ h => w0 h.1.2⟩)⟩
    obtain ⟨c, c1, c2⟩ := hcl s2
    have h16 := hS.m16 c1
    have blt := bitsN_lt (p := wtB us mc rt ρ u k) 16
    refine c_early hG hC hS hU hu ho hkl c1 c2 uq hI ⟨fun z => ?_, fun z => ?_⟩
    · have z := (bitsN_0 16).mp ((eI (b := 0) (by omega) (by decide)).mp z)
      rw [← ek]
      refine kA i hlt ?_ h0
      rw [ek]
      refine ⟨⟨s2, w0⟩, fun m hw => ?_⟩
      have := z m (by have := wt_lt hS c1 c2 hw; omega)
      rw [show wtB us mc rt ρ u k m = true from dP_t hw] at this
      cases this
    · have hn0 : ¬ ch0 us mc rt ρ u k := fun h => z (by
        rw [(bitsN_0 (p := wtB us mc rt ρ u k) 16).mpr (fun m _ => dP_f (h.2 m))]; rfl)
      refine ⟨fun e => ?_, fun e => nxt hn0 nx po (Or.inl ⟨rfl, rfl, fun h => absurd h e⟩)⟩
      refine c_hasMust hG hC hS hu (by omega) c1 (t4.trans c2) (fun hm => br1 (nxt hn0 nx po (Or.inl ⟨rfl, rfl, fun _ h => ?_⟩))) (fun hm => br0 (nxt hn0 _ _ (Or.inr ⟨e, ⟨⟨s2, w0⟩, ?_, fun c' m a1 a2 a3 a4 => ?_⟩, rfl, rfl⟩)))
      · obtain ⟨m, m1, m2, m3⟩ := hm
        exact m3 (h.2.2 c m (by omega) c2 m1 (dP_o m2))
      · refine Classical.byContradiction (fun h => z ?_)
        rw [(bitsN_0 (p := wtB us mc rt ρ u k) 16).mpr (fun m _ => dP_f (fun hw => h ⟨m, hw⟩))]; rfl
      · have ecc : c' = c := (eI (by omega) (by omega)).mp (a2.symm.trans c2)
        rw [ecc] at a3 ⊢
        exact hm m a3 (dP_t a4)
  · obtain rfl : i = l.length := by omega
    simp (disch := omega) only [X_X10_nextInsert_7_s, X_X10_nextInsert_95, mI_c, hL.1, lT, lF, tT, tF, eF, pF, zT, m1F, vT, cI, true_and, and_true, true_implies, false_implies, not_false_eq_true, not_true_eq_false, forall_eq, implies_true, oc.1]
    rcases h1 with ⟨rfl, h1⟩ | ⟨i1, b1, b2, b3, rfl, rfl⟩
    · exact brT rfl (kC h0 h1)
    · have := (hl _ (getD_mem b1)).1
      refine brF (by omega) ?_
      simp (disch := omega) only [hL.2.2, sI_c, lT, lF, tT, tF, eF, pF, zT, m1F, vT, cI, true_and, and_true, true_implies, false_implies, not_false_eq_true, not_true_eq_false, forall_eq, implies_true]
      exact kB h0 i1 b1 b2 b3
/-- the reference's walk for one patience -/
theorem m_choose1 (hM : LyM G) (hm : StM ρ) (hS : RelS sc n mc rt hc κ ρ) (hu : u < 4) (h60 : us u ≤ 60) (eu : mI ρ 1317 u = nI (us u)) (om : OrdM ρ u L) (hLl : L.length ≤ 60) (hL : ∀ k, k ∈ L → k < us u ∧ mI ρ 1319 (60 * u + k) = 2 ∧ ∃ c, c < n ∧ mI ρ 1322 (60 * u + k) = nI c) (uq : ∀ a b, a < us u → b < us u → mI ρ 1320 (60 * u + a) = mI ρ 1320 (60 * u + b) → mI ρ 1321 (60 * u + a) = mI ρ 1321 (60 * u + b) → a = b) (least : Nat) (hle : least < 2) {Q : Int32 → Mem → Prop} {K57 : Int32 × Mem → Prop} {K66 : Int32 × Int32 × Mem → Prop} {l2 : Int32}
    (k1 : ∀ j, j < L.length → (ch0 us mc rt ρ u (L.getD j 0) ∨ least = 1 ∧ ch1 us mc rt ρ u (L.getD j 0)) → (∀ j', j' < j → ¬ (ch0 us mc rt ρ u (L.getD j' 0) ∨ least = 1 ∧ ch1 us mc rt ρ u (L.getD j' 0))) → K66 (nI (60 * u + L.getD j 0), nI (least + 1), mg κ1 ρ))
    (k0 : (∀ j, j < L.length → ¬ (ch0 us mc rt ρ u (L.getD j 0) ∨ least = 1 ∧ ch1 us mc rt ρ u (L.getD j 0))) → K66 (-1, nI (least + 1), mg κ1 ρ)) : X_X12_insertAll_79 G Q K57 K66 1282 l2 (-1) (nI least) 0 (mg κ1 ρ) := by
  have h12 := hS.le
  unfold X_X12_insertAll_79
  refine Lw.nat L.length (fun i x => (x = (-1, nI i, mg κ1 ρ) ∧ ∀ j, j < i → ¬ (ch0 us mc rt ρ u (L.getD j 0) ∨ least = 1 ∧ ch1 us mc rt ρ u (L.getD j 0))) ∨ ∃ j, j < i ∧ x = (nI (60 * u + L.getD j 0), nI i, mg κ1 ρ) ∧ (ch0 us mc rt ρ u (L.getD j 0) ∨ least = 1 ∧ ch1 us mc rt ρ u (L.getD j 0)) ∧ ∀ j', j' < j → ¬ (ch0 us mc rt ρ u (L.getD j' 0) ∨ least = 1 ∧ ch1 us mc rt ρ u (L.getD j' 0))) ?_ 0 (by omega) _ (Or.inl ⟨rfl, fun j h => by omega⟩)
  rintro K' i x hi (⟨rfl, h0⟩ | ⟨j, j1, rfl, j2, j3⟩) hk'
  · by_cases hlt : i < L.length
    · obtain ⟨hkl, s2, c, c1, c2⟩ := hL _ (getD_mem hlt)
      have omi := om.2 i hlt
      have omn := om.1
      generalize ek : L.getD i 0 = k at hkl s2 c2 omi
      have nxt : ¬ (ch0 us mc rt ρ u k ∨ least = 1 ∧ ch1 us mc rt ρ u k) → K' (-1, nI (i + 1), mg κ1 ρ) := fun hn => hk' _ hlt (Or.inl ⟨rfl, fun j hj => by
        by_cases e : j = i
        · rw [e, ek]; exact hn
        · exact h0 j (by omega)⟩)
      have hit : (ch0 us mc rt ρ u k ∨ least = 1 ∧ ch1 us mc rt ρ u k) → K' (nI (60 * u + k), nI (i + 1), mg κ1 ρ) := fun hn => hk' _ hlt (Or.inr ⟨i, by omega, by rw [ek], by rw [ek]; exact hn, h0⟩)
      simp (disch := omega) only [X_X12_insertAll_79_s, X_X12_insertAll_131, mI_m, mR_m, hM.1, hM.2, hm.1, hm.2, lT, lF, tT, tF, eF, pF, zT, m1F, vT, cI, true_and, and_true, true_implies, false_implies, not_false_eq_true, not_true_eq_false, forall_eq, implies_true, omn, omi, m1z, nI_1]
      refine ⟨fun w0 => ?_, fun w0 => nxt (fun h => ?_)⟩
      · refine m_waitsHow hM hm hS hu h60 eu hkl c1 c2 uq (fun hz => ?_) (fun h1 h2 => ?_) (fun h1 => ?_)
        · refine brF (pI (by omega)) ?_
          simp (disch := omega) only [mI_m, mR_m, hM.1, hM.2, hm.1, hm.2, lT, lF, tT, tF, eF, pF, zT, m1F, vT, cI, true_and, and_true, true_implies, false_implies, not_false_eq_true, not_true_eq_false, forall_eq, implies_true, omi]
          exact hit (Or.inl ⟨⟨s2, w0⟩, fun m hw => hz m (wt_lt hS c1 c2 hw) hw⟩)
        · obtain ⟨m, m1, m2⟩ := h1
          have hc1 : ch1 us mc rt ρ u k := ⟨⟨s2, w0⟩, ⟨m, m2⟩, fun c' m' a1 a2 a3 a4 => by
            have ecc : c' = c := (eI (by omega) (by omega)).mp (a2.symm.trans c2)
            rw [ecc] at a3 ⊢
            exact h2 m' a3 a4⟩
          have hc0 : ¬ ch0 us mc rt ρ u k := fun h => h.2 m m2
          by_cases e1 : least = 1
          · subst e1
            refine brF (by decide) ?_
            simp (disch := omega) only [mI_m, mR_m, hM.1, hM.2, hm.1, hm.2, lT, lF, tT, tF, eF, pF, zT, m1F, vT, cI, true_and, and_true, true_implies, false_implies, not_false_eq_true, not_true_eq_false, forall_eq, implies_true, omi]
            exact hit (Or.inr ⟨rfl, hc1⟩)
          · have e0 : least = 0 := by omega
            subst e0
            exact brT (by decide) (nxt (fun h => by
              rcases h with h | h
              · exact hc0 h
              · exact absurd h.1 (by decide)))
        · obtain ⟨m, m1, m2, m3⟩ := h1
          have hn : ¬ (ch0 us mc rt ρ u k ∨ least = 1 ∧ ch1 us mc rt ρ u k) := fun h => by
            rcases h with h | h
            · exact h.2 m m2
            · exact m3 (h.2.2.2 c m (by omega) c2 m1 m2)
          refine brT ?_ (nxt hn)
          have : least = 0 ∨ least = 1 := by omega
          rcases this with rfl | rfl <;> decide
      · rcases h with h | h
        · exact w0 h.1.2
        · exact w0 h.2.1.2
    · obtain rfl : i = L.length := by omega
      simp (disch := omega) only [X_X12_insertAll_79_s, X_X12_insertAll_137, mI_m, hM.1, lT, lF, tT, tF, eF, pF, zT, m1F, vT, cI, true_and, and_true, true_implies, false_implies, not_false_eq_true, not_true_eq_false, forall_eq, implies_true, om.1, nI_1]
      exact k0 h0
  · have hjl : j < L.length := by omega
    have := (hL _ (getD_mem hjl)).1
    simp (disch := omega) only [X_X12_insertAll_79_s, X_X12_insertAll_137, mI_m, hM.1, lT, lF, tT, tF, eF, pF, zT, m1F, vT, cI, true_and, and_true, true_implies, false_implies, not_false_eq_true, not_true_eq_false, forall_eq, implies_true, om.1, nI_1]
    exact ⟨fun _ => k1 j hjl j2 j3, fun _ => k1 j hjl j2 j3⟩
theorem m_choose (hM : LyM G) (hm : StM ρ) (hS : RelS sc n mc rt hc κ ρ) (hu : u < 4) (h60 : us u ≤ 60) (eu : mI ρ 1317 u = nI (us u)) (om : OrdM ρ u L) (hLl : L.length ≤ 60) (hL : ∀ k, k ∈ L → k < us u ∧ mI ρ 1319 (60 * u + k) = 2 ∧ ∃ c, c < n ∧ mI ρ 1322 (60 * u + k) = nI c) (uq : ∀ a b, a < us u → b < us u → mI ρ 1320 (60 * u + a) = mI ρ 1320 (60 * u + b) → mI ρ 1321 (60 * u + a) = mI ρ 1321 (60 * u + b) → a = b) {Q : Int32 → Mem → Prop} {K57 : Int32 × Mem → Prop} {l2 : Int32}
    (kA : ∀ j, j < L.length → ch0 us mc rt ρ u (L.getD j 0) → (∀ j', j' < j → ¬ ch0 us mc rt ρ u (L.getD j' 0)) → X_X12_insertAll_143 G Q K57 1282 l2 (nI (60 * u + L.getD j 0)) (mg κ1 ρ))
    (kB : (∀ j, j < L.length → ¬ ch0 us mc rt ρ u (L.getD j 0)) → ∀ j, j < L.length → ch1 us mc rt ρ u (L.getD j 0) → (∀ j', j' < j → ¬ ch1 us mc rt ρ u (L.getD j' 0)) → X_X12_insertAll_143 G Q K57 1282 l2 (nI (60 * u + L.getD j 0)) (mg κ1 ρ))
    (kC : (∀ j, j < L.length → ¬ ch0 us mc rt ρ u (L.getD j 0)) → (∀ j, j < L.length → ¬ ch1 us mc rt ρ u (L.getD j 0)) → X_X12_insertAll_143 G Q K57 1282 l2 (-1) (mg κ1 ρ)) : X_X12_insertAll_66 G Q K57 1282 l2 (-1) 0 (mg κ1 ρ) := by
  have end1 : ∀ j, j < L.length → X_X12_insertAll_143 G Q K57 1282 l2 (nI (60 * u + L.getD j 0)) (mg κ1 ρ) → ∀ e, e = 1 ∨ e = 2 → Lw (X_X12_insertAll_66_s G Q K57 1282 l2) (nI (60 * u + L.getD j 0), nI e, mg κ1 ρ) := fun j hj h e he => Lw.fin (fun K => by
    have := (hL _ (getD_mem hj)).1
    rcases he with rfl | rfl
    · refine brF (by decide) (brT (Int32.not_lt.mp (pI (by omega))) h)
    · exact brT (by decide) h)
  unfold X_X12_insertAll_66
  by_cases hx : ∃ j, j < L.length ∧ ch0 us mc rt ρ u (L.getD j 0)
  · obtain ⟨j, ⟨j1, j2⟩, j3⟩ := pk_least _ hx
    refine Lw.stp (b := (nI (60 * u + L.getD j 0), nI 1, mg κ1 ρ)) (fun K hK => ?_) (end1 j j1 (kA j j1 j2 (fun j' h1 h2 => j3 j' h1 ⟨by omega, h2⟩)) 1 (Or.inl rfl))
    refine brF (by decide) (brF (by decide) ?_)
    refine m_choose1 hM hm hS hu h60 eu om hLl hL uq 0 (by decide) (fun i i1 i2 i3 => ?_) (fun h => absurd (Or.inl j2) (h j j1))
    have ei : i = j := by
      have i2 : ch0 us mc rt ρ u (L.getD i 0) := i2.resolve_right (fun h => absurd h.1 (by decide))
      by_cases h : i < j
      · exact absurd ⟨by omega, i2⟩ (j3 i h)
      · by_cases h2 : j < i
        · exact absurd (Or.inl j2) (i3 j h2)
        · omega
    rw [ei]; exact hK
  · have hn0 : ∀ j, j < L.length → ¬ ch0 us mc rt ρ u (L.getD j 0) := fun j h1 h2 => hx ⟨j, h1, h2⟩
    refine Lw.stp (b := (-1, nI 1, mg κ1 ρ)) (fun K hK => ?_) ?_
    · refine brF (by decide) (brF (by decide) ?_)
      exact m_choose1 hM hm hS hu h60 eu om hLl hL uq 0 (by decide) (fun i i1 i2 i3 => absurd (i2.resolve_right (fun h => absurd h.1 (by decide))) (hn0 i i1)) (fun h => hK)
    · by_cases hy : ∃ j, j < L.length ∧ ch1 us mc rt ρ u (L.getD j 0)
      · obtain ⟨j, ⟨j1, j2⟩, j3⟩ := pk_least _ hy
        refine Lw.stp (b := (nI (60 * u + L.getD j 0), nI 2, mg κ1 ρ)) (fun K hK => ?_) (end1 j j1 (kB hn0 j j1 j2 (fun j' h1 h2 => j3 j' h1 ⟨by omega, h2⟩)) 2 (Or.inr rfl))
        refine brF (by decide) (brF (by decide) ?_)
        refine m_choose1 hM hm hS hu h60 eu om hLl hL uq 1 (by decide) (fun i i1 i2 i3 => ?_) (fun h => absurd (Or.inr ⟨rfl, j2⟩) (h j j1))
        have ei : i = j := by
          have i2 : ch1 us mc rt ρ u (L.getD i 0) := (i2.resolve_left (hn0 i i1)).2
          by_cases h : i < j
          · exact absurd ⟨by omega, i2⟩ (j3 i h)
          · by_cases h2 : j < i
            · exact absurd (Or.inr ⟨rfl, j2⟩) (i3 j h2)
            · omega
        rw [ei]; exact hK
      · have hn1 : ∀ j, j < L.length → ¬ ch1 us mc rt ρ u (L.getD j 0) := fun j h1 h2 => hy ⟨j, h1, h2⟩
        refine Lw.stp (b := (-1, nI 2, mg κ1 ρ)) (fun K hK => ?_) (Lw.fin (fun K => brT (by decide) (kC hn0 hn1)))
        refine brF (by decide) (brF (by decide) ?_)
        refine m_choose1 hM hm hS hu h60 eu om hLl hL uq 1 (by decide) (fun i i1 i2 i3 => ?_) (fun h => hK)
        rcases i2 with i2 | i2
        · exact absurd i2 (hn0 i i1)
        · exact absurd i2.2 (hn1 i i1)
end CHOICE
