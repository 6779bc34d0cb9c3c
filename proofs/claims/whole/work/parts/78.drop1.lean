/-- two loops side by side; each step goes on, ends the loops, or breaks both off -/
theorem Lw.two {α1 α2 β γ ι1 ι2 : Type} (F1 : ι1 → (α1 → Prop) → α1 → Prop) (g1 : β → ι1 → α1) (E1 : ι1 → γ → Prop) (F2 : ι2 → (α2 → Prop) → α2 → Prop) (g2 : β → ι2 → α2) (E2 : ι2 → γ → Prop) (n : Nat) (J : Nat → β → Prop) (D : β → Prop) (A : γ → Prop)
    (hs : ∀ i b, i ≤ n → J i b → D b ∨ (i < n ∧ ∃ b', J (i + 1) b' ∧ (∀ q K, K (g1 b' q) → F1 q K (g1 b q)) ∧ ∀ q K, K (g2 b' q) → F2 q K (g2 b q)) ∨ ∃ s, A s ∧ (∀ q K, E1 q s → F1 q K (g1 b q)) ∧ ∀ q K, E2 q s → F2 q K (g2 b q)) (i : Nat) (hi : i ≤ n) (b : β) (h : J i b) :
    (∃ i' b', i' ≤ n ∧ J i' b' ∧ D b' ∧ (∀ q, (∀ K, F1 q K (g1 b' q)) → Lw (F1 q) (g1 b q)) ∧ ∀ q, (∀ K, F2 q K (g2 b' q)) → Lw (F2 q) (g2 b q)) ∨ ∃ s, A s ∧ (∀ q, E1 q s → Lw (F1 q) (g1 b q)) ∧ ∀ q, E2 q s → Lw (F2 q) (g2 b q) := by
  have key : ∀ d i b, i ≤ n → n - i = d → J i b → (∃ i' b' m, i' ≤ n ∧ J i' b' ∧ D b' ∧ (∀ q, (∀ K, F1 q K (g1 b' q)) → Lp (F1 q) (m + 1) (g1 b q)) ∧ ∀ q, (∀ K, F2 q K (g2 b' q)) → Lp (F2 q) (m + 1) (g2 b q)) ∨ ∃ s m, A s ∧ (∀ q, E1 q s → Lp (F1 q) (m + 1) (g1 b q)) ∧ ∀ q, E2 q s → Lp (F2 q) (m + 1) (g2 b q) := by
    intro d
    induction d with
    | zero =>
      intro i b hi hd hb
      rcases hs i b hi hb with h1 | ⟨h1, -⟩ | ⟨s, h1, h2, h3⟩
      · exact Or.inl ⟨i, b, 0, hi, hb, h1, fun q hq => hq _, fun q hq => hq _⟩
      · omega
      · exact Or.inr ⟨s, 0, h1, fun q hq => h2 q _ hq, fun q hq => h3 q _ hq⟩
    | succ d ih =>
      intro i b hi hd hb
      rcases hs i b hi hb with h1 | ⟨h1, b1, h2, h3, h4⟩ | ⟨s, h1, h2, h3⟩
      · exact Or.inl ⟨i, b, 0, hi, hb, h1, fun q hq => hq _, fun q hq => hq _⟩
      · rcases ih (i + 1) b1 (by omega) (by omega) h2 with ⟨i', b', m, k1, k2, k3, k4, k5⟩ | ⟨s, m, k1, k2, k3⟩
        · exact Or.inl ⟨i', b', m + 1, k1, k2, k3, fun q hq => h3 q _ (k4 q hq), fun q hq => h4 q _ (k5 q hq)⟩
        · exact Or.inr ⟨s, m + 1, k1, fun q hq => h3 q _ (k2 q hq), fun q hq => h4 q _ (k3 q hq)⟩
      · exact Or.inr ⟨s, 0, h1, fun q hq => h2 q _ hq, fun q hq => h3 q _ hq⟩
  rcases key (n - i) i b hi rfl h with ⟨i', b', m, k1, k2, k3, k4, k5⟩ | ⟨s, m, k1, k2, k3⟩
  · exact Or.inl ⟨i', b', k1, k2, k3, fun q hq => ⟨_, k4 q hq⟩, fun q hq => ⟨_, k5 q hq⟩⟩
  · exact Or.inr ⟨s, k1, fun q hq => ⟨_, k2 q hq⟩, fun q hq => ⟨_, k3 q hq⟩⟩
theorem cnt_cg {g h : Nat → Int32} {x : Int32} : ∀ n, (∀ i, i < n → g i = h i) → cnt g x n = cnt h x n := by
  intro n
  induction n with
  | zero => intro _; rfl
  | succ n ih =>
    intro e
    show cnt g x n + (if g n = x then 1 else 0) = cnt h x n + if h n = x then 1 else 0
    rw [ih (fun i hi => e i (by omega)), e n (by omega)]
theorem cnt_lt {g : Nat → Int32} {x : Int32} {k : Nat} : ∀ n, k < n → g k ≠ x → cnt g x n < n := by
  have le : ∀ n, cnt g x n ≤ n := by
    intro n
    induction n with
    | zero => exact Nat.le_refl _
    | succ n ih =>
      show cnt g x n + (if g n = x then 1 else 0) ≤ n + 1
      by_cases e : g n = x
      · rw [if_pos e]; omega
      · rw [if_neg e]; omega
  intro n
  induction n with
  | zero => intro h; omega
  | succ n ih =>
    intro h hk
    show cnt g x n + (if g n = x then 1 else 0) < n + 1
    by_cases e : k = n
    · subst e
      rw [if_neg hk]
      have := le k
      omega
    · have := ih (by omega) hk
      by_cases e2 : g n = x
      · rw [if_pos e2]; omega
      · rw [if_neg e2]; omega
theorem cnt_up {g h : Nat → Int32} {x : Int32} {k : Nat} (hg : g k ≠ x) (hh : h k = x) (e : ∀ i, i ≠ k → h i = g i) : ∀ n, k < n → cnt h x n = cnt g x n + 1 := by
  intro n
  induction n with
  | zero => intro h; omega
  | succ n ih =>
    intro hk
    show cnt h x n + (if h n = x then 1 else 0) = cnt g x n + (if g n = x then 1 else 0) + 1
    by_cases en : n = k
    · subst en
      rw [if_pos hh, if_neg hg, cnt_cg n (fun i hi => e i (by omega))]
    · rw [e n en, ih (by omega)]
      omega
/-- the row of what is dropped: fl i the i-th object's number, cF how many -/
def DR (nn sc n : Nat) (mc rt hc K N : Nat → Nat) (r0 u : Nat) (us : Nat → Nat) (cF : Nat) (fl : Nat → Nat) (κ ρ : Mem) : Prop :=
  RelA nn sc n mc rt hc K N r0 us κ ρ ∧ mI ρ 1316 u = 1 ∧ mI κ (533 + 184 * u) 7 = nI cF ∧
  (∀ i, i < cF → fl i < us u ∧ mR κ (535 + 184 * u) i = 537 + 184 * u + 3 * fl i ∧ mI ρ 1328 i = nI (60 * u + fl i) ∧ LiveS ρ (60 * u + fl i)) ∧
  (∀ i j, i < cF → j < cF → fl i = fl j → i = j) ∧
  (∀ k, k < us u → mI κ (537 + 184 * u + 3 * k) 8 = 0 ∧ (∀ i, i < cF → fl i ≠ k) ∨ mI κ (537 + 184 * u + 3 * k) 8 = 1 ∧ ∃ i, i < cF ∧ fl i = k) ∧
  cF = cnt (fun k => mI κ (537 + 184 * u + 3 * k) 8) 1 (us u)
/-- what stays while a key is followed -/
def KeepD (sc u : Nat) (us : Nat → Nat) (κ ρ κ' ρ' : Mem) : Prop := (∀ k, k < us u → LiveS ρ (60 * u + k) → Eqv (thM (60 * u + k)) ρ ρ') ∧ (∀ i, mI κ' (536 + 184 * u) i = mI κ (536 + 184 * u) i) ∧ (∀ i, mI ρ' 1329 i = mI ρ 1329 i) ∧ Eqv sM ρ ρ' ∧ Eqv (sCc sc) κ κ'
theorem KeepD.rf {sc u : Nat} {us : Nat → Nat} {κ ρ : Mem} : KeepD sc u us κ ρ κ ρ := ⟨fun _ _ _ => Eqv.rf, fun _ => rfl, fun _ => rfl, Eqv.rf, Eqv.rf⟩
theorem LiveS.fr {p : Nat} {ρ ρ' : Mem} (h : LiveS ρ p) (e : Eqv (thM p) ρ ρ') : LiveS ρ' p := by
  unfold LiveS
  rw [e.I (Or.inl ⟨by decide, by decide, rfl⟩)]
  exact h
theorem KeepD.tr {sc u : Nat} {us us' : Nat → Nat} {κ ρ κ' ρ' κ'' ρ'' : Mem} (h : KeepD sc u us κ ρ κ' ρ') (hu : us u ≤ us' u) (h2 : KeepD sc u us' κ' ρ' κ'' ρ'') : KeepD sc u us κ ρ κ'' ρ'' :=
  ⟨fun k hk hl => (h.1 k hk hl).tr (h2.1 k (by omega) (hl.fr (h.1 k hk hl))), fun i => (h2.2.1 i).trans (h.2.1 i), fun i => (h2.2.2.1 i).trans (h.2.2.1 i), h.2.2.2.1.tr h2.2.2.2.1, h.2.2.2.2.tr h2.2.2.2.2⟩
section DROP
variable {G : Lay} {nn nn' sc n r0 : Nat} {mc rt hc K K' N us : Nat → Nat} {κ κ' ρ ρ' κ1 ρ1 : Mem} {u k : Nat} {cF : Nat} {fl : Nat → Nat}
/-- is it in the row already? -/
theorem m_263 (hM : LyM G) (hm : StM ρ) (hcF : cF ≤ 60) (hfl : ∀ i, i < cF → mI ρ 1328 i = nI (60 * u + fl i) ∧ fl i < 60) (hu : u < 4) (hk : k < 60) {Q : Int32 → Mem → Prop} {K30 K49 K198 : Int32 × Int32 × Mem → Prop} {l3 l5 l6 l7 l8 l9 l10 v : Int32} (hv : v = 0 ∨ v = 1) (hadd : v = 0 → (∀ i, i < cF → fl i ≠ k) → cF < 60)
    (q1 : (v = 1 ∨ ∃ i, i < cF ∧ fl i = k) → K198 (nI cF, l10 + 1, mg κ1 ρ)) (q0 : v = 0 → (∀ i, i < cF → fl i ≠ k) → K198 (nI (cF + 1), l10 + 1, mg κ1 (sI ρ 1328 cF (nI (60 * u + k))))) :
    X_X12_drop_258 G Q K30 K49 K198 1282 l3 (nI cF) l5 l6 l7 l8 l9 l10 (nI (60 * u + k)) v (mg κ1 ρ) := by
  unfold X_X12_drop_258 X_X12_drop_263
  refine Lw.nat cF (fun i y => (y = (1, nI i, mg κ1 ρ) ∧ (v = 1 ∨ ∃ j, j < i ∧ fl j = k)) ∨ (y = (0, nI i, mg κ1 ρ) ∧ v = 0 ∧ ∀ j, j < i → fl j ≠ k)) ?_ 0 (Nat.zero_le _) _ ?_
  · rintro K' i y hi (⟨rfl, h⟩ | ⟨rfl, h1, h2⟩) hk'
    · by_cases hlt : i < cF
      · simp (disch := omega) only [X_X12_drop_263_s, X_X12_drop_287, X_X12_drop_292, lT, lF, tT, tF, eF, pF, zT, m1F, vT, cI, true_and, and_true, true_implies, false_implies, not_false_eq_true, not_true_eq_false, forall_eq, implies_true, nI_1, o0F]
        exact hk' _ hlt (Or.inl ⟨rfl, h.imp id (fun ⟨j, j1, j2⟩ => ⟨j, by omega, j2⟩)⟩)
      · obtain rfl : i = cF := by omega
        simp (disch := omega) only [X_X12_drop_263_s, X_X12_drop_320, lT, lF, tT, tF, eF, pF, zT, m1F, vT, cI, true_and, and_true, true_implies, false_implies, not_false_eq_true, not_true_eq_false, forall_eq, implies_true, o0F]
        exact q1 h
    · by_cases hlt : i < cF
      · obtain ⟨e1, e2⟩ := hfl i hlt
        simp (disch := omega) only [X_X12_drop_263_s, X_X12_drop_287, X_X12_drop_292, lT, lF, tT, tF, eF, pF, zT, m1F, vT, cI, true_and, and_true, true_implies, false_implies, not_false_eq_true, not_true_eq_false, forall_eq, implies_true, nI_1, mI_m, mR_m, hM.1, hM.2, hm.1, hm.2, e1]
        refine ⟨fun e => hk' _ hlt (Or.inl ⟨rfl, Or.inr ⟨i, by omega, ?_⟩⟩), fun e => hk' _ hlt (Or.inr ⟨rfl, h1, fun j hj => ?_⟩)⟩
        · have := (eI (by omega) (by omega)).mp e
          omega
        · by_cases ej : j = i
          · subst ej; exact fun z => e (by rw [z])
          · exact h2 j (by omega)
      · obtain rfl : i = cF := by omega
        have h59 := hadd h1 h2
        simp (disch := omega) only [X_X12_drop_263_s, X_X12_drop_320, lT, lF, tT, tF, eF, pF, zT, m1F, vT, cI, true_and, and_true, true_implies, false_implies, not_false_eq_true, not_true_eq_false, forall_eq, implies_true, nI_1, mI_m, mR_m, sI_m, hM.1, hM.2, hm.1, hm.2]
        exact q0 h1 h2
  · rcases hv with rfl | rfl
    · exact Or.inr ⟨rfl, rfl, fun j hj => by omega⟩
    · exact Or.inl ⟨rfl, Or.inl rfl⟩
end DROP
