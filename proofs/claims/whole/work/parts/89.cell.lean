/-! cells: the wanted column among members -/
def nth (p : Nat → Bool) : Nat → Nat → Nat → Nat ⊕ Nat
  | 0, _, w => .inr w
  | f + 1, m, w => if p m = true then (if w = 0 then .inl m else nth p f (m + 1) (w - 1)) else nth p f (m + 1) w
def cnp (p : Nat → Bool) : Nat → Nat → Nat
  | 0, _ => 0
  | f + 1, m => (if p m = true then 1 else 0) + cnp p f (m + 1)
theorem nth_skip {p : Nat → Bool} {f w : Nat} : ∀ j m, (∀ i, m ≤ i → i < m + j → p i = false) → nth p (f + j) m w = nth p f (m + j) w := by
  intro j
  induction j with
  | zero => intro m _; rfl
  | succ j ih =>
    intro m h
    show (if p m = true then (if w = 0 then _ else _) else nth p (f + j) (m + 1) w) = _
    rw [h m (Nat.le_refl _) (by omega), if_neg (by decide), ih (m + 1) (fun i a b => h i (by omega) (by omega)), show m + 1 + j = m + (j + 1) by omega]
theorem nth_cg {p p' : Nat → Bool} : ∀ f m w, (∀ i, m ≤ i → i < m + f → p i = p' i) → nth p f m w = nth p' f m w := by
  intro f
  induction f with
  | zero => intro m w _; rfl
  | succ f ih =>
    intro m w h
    unfold nth
    rw [h m (Nat.le_refl _) (by omega), ih (m + 1) (w - 1) (fun i a b => h i (by omega) (by omega)), ih (m + 1) w (fun i a b => h i (by omega) (by omega))]
theorem nth_inl {p : Nat → Bool} : ∀ f m w i, nth p f m w = .inl i → i < m + f := by
  intro f
  induction f with
  | zero => intro m w i h; cases h
  | succ f ih =>
    intro m w i h
    unfold nth at h
    split at h
    · split at h
      · cases h; omega
      · have := ih _ _ _ h; omega
    · have := ih _ _ _ h; omega
theorem nth_inr {p : Nat → Bool} : ∀ f m w l, nth p f m w = .inr l → l + cnp p f m = w := by
  intro f
  induction f with
  | zero => intro m w l h; cases h; rfl
  | succ f ih =>
    intro m w l h
    unfold nth at h
    unfold cnp
    split at h
    · rename_i hp
      rw [if_pos hp]
      split at h
      · cases h
      · have := ih _ _ _ h; omega
    · rename_i hp
      rw [if_neg hp]
      have := ih _ _ _ h; omega
theorem cnp_le {p : Nat → Bool} : ∀ f m, cnp p f m ≤ f := by
  intro f
  induction f with
  | zero => intro m; exact Nat.le_refl _
  | succ f ih =>
    intro m
    unfold cnp
    have := ih (m + 1)
    split <;> omega
theorem nth_s (p : Nat → Bool) (f m w : Nat) : nth p (f + 1) m w = if p m = true then (if w = 0 then .inl m else nth p f (m + 1) (w - 1)) else nth p f (m + 1) w := rfl
theorem cnp_s (p : Nat → Bool) (f m : Nat) : cnp p (f + 1) m = (if p m = true then 1 else 0) + cnp p f (m + 1) := rfl
def outr (sel : Nat → Bool) (q : Nat → Nat → Nat ⊕ Nat) : Nat → Nat → Nat → Option (Nat × Nat)
  | 0, _, _ => none
  | f + 1, k, w => if sel k = true then (match q k w with | .inl m => some (k, m) | .inr l => outr sel q f (k + 1) l) else outr sel q f (k + 1) w
theorem outr_s (sel : Nat → Bool) (q : Nat → Nat → Nat ⊕ Nat) (f k w : Nat) : outr sel q (f + 1) k w = if sel k = true then (match q k w with | .inl m => some (k, m) | .inr l => outr sel q f (k + 1) l) else outr sel q f (k + 1) w := rfl
theorem outr_skip {sel : Nat → Bool} {q : Nat → Nat → Nat ⊕ Nat} {f w : Nat} : ∀ j k, (∀ i, k ≤ i → i < k + j → sel i = false) → outr sel q (f + j) k w = outr sel q f (k + j) w := by
  intro j
  induction j with
  | zero => intro m _; rfl
  | succ j ih =>
    intro m h
    show (if sel m = true then _ else outr sel q (f + j) (m + 1) w) = _
    rw [h m (Nat.le_refl _) (by omega), if_neg (by decide), ih (m + 1) (fun i a b => h i (by omega) (by omega)), show m + 1 + j = m + (j + 1) by omega]
theorem outr_none {sel : Nat → Bool} {q : Nat → Nat → Nat ⊕ Nat} {f k w : Nat} (h : ∀ i, k ≤ i → i < k + f → sel i = false) : outr sel q f k w = none := by
  have := outr_skip (q := q) (f := 0) (w := w) f k h
  rw [Nat.zero_add] at this
  rw [this]; rfl
theorem outr_cg {sel : Nat → Bool} {q q' : Nat → Nat → Nat ⊕ Nat} : ∀ f k w, (∀ i w, k ≤ i → i < k + f → q i w = q' i w) → outr sel q f k w = outr sel q' f k w := by
  intro f
  induction f with
  | zero => intro m w _; rfl
  | succ f ih =>
    intro k w h
    unfold outr
    rw [h k w (Nat.le_refl _) (by omega), ih (k + 1) w (fun i w a b => h i w (by omega) (by omega))]
    split
    · split
      · rfl
      · exact ih (k + 1) _ (fun i w a b => h i w (by omega) (by omega))
    · rfl
theorem outr_one {sel : Nat → Bool} {q : Nat → Nat → Nat ⊕ Nat} {n c w : Nat} (hc : c < n) (h : ∀ k, sel k = decide (k = c)) : outr sel q n 0 w = match q c w with | .inl m => some (c, m) | .inr _ => none := by
  obtain ⟨f, rfl⟩ : ∃ f, n = (f + 1) + c := ⟨n - c - 1, by omega⟩
  rw [outr_skip c 0 (fun i _ hi => by rw [h]; exact decide_eq_false (by omega)), Nat.zero_add]
  unfold outr
  rw [h c, if_pos (decide_eq_true rfl)]
  cases q c w with
  | inl m => rfl
  | inr l => exact outr_none (fun i a b => by rw [h]; exact decide_eq_false (by omega))
def isCol (ρ : Mem) (c m : Nat) : Bool := decide (¬ mI ρ 1290 (16 * c + m) = 5)
def isColW (way : Int32) (ρ : Mem) (c m : Nat) : Bool := decide (¬ mI ρ 1290 (16 * c + m) = 5 ∧ (way = 2 ∨ mI ρ 1296 (16 * c + m) = nI c))
def ansN : Nat ⊕ Nat → Int32
  | .inl m => nI m
  | .inr _ => -1
def cva (ρ : Mem) (d r : Nat) : Option (Nat × Nat) → Int64
  | none => -9223372036854775808
  | some (k, m) => if isa (par ρ) d k = true then (mI ρ 1309 (16 * r + m)).toInt64 else -4294967296
section CELL
variable {G : Lay} {nn nn' sc n r0 : Nat} {mc rt hc K K' N us : Nat → Nat} {κ κ' ρ ρ' κ1 ρ1 : Mem} {u k : Nat}
theorem d2I {p : Nat} (h : 2 ≤ p) : nI p + (-2) = nI (p - 2) := by
  rw [← pk_sub (a := p) (b := 2) h, Int32.sub_eq_add_neg]; rfl
theorem way_rt (hS : RelS sc n mc rt hc κ ρ) : ∀ d, d < n → mI ρ 1286 (rt d) = mI ρ 1286 d := by
  intro d
  induction d using Nat.strongRecOn with
  | _ d ih =>
    intro hd
    rcases hS.hei hd with ⟨e1, e2⟩ | ⟨p, e1, e2, e3, e4, e5, -⟩
    · rw [e2]
    · rw [e3, e5]; exact ih p e1 (by omega)
theorem ownFrom_le (hS : RelS sc n mc rt hc κ ρ) {c : Nat} (hc1 : c < n) : ownFrom mc ρ c ≤ mc c := by
  have := hS.le
  rcases hS.hei hc1 with ⟨e1, e2⟩ | ⟨p, e1, e2, e3, e4, -⟩
  · unfold ownFrom; rw [e1, if_pos m1_neg]; omega
  · unfold ownFrom; rw [e2, if_neg (pI (by omega)), cI (by omega)]; exact e4
/-- own members: from ownFrom on -/
theorem own_iff (hS : RelS sc n mc rt hc κ ρ) {c m : Nat} (hc1 : c < n) (hm1 : m < mc c) : mI ρ 1296 (16 * c + m) = nI c ↔ ownFrom mc ρ c ≤ m := by
  have h12 := hS.le
  obtain ⟨-, o, o1, o2, o3, o4, o5⟩ := hS.mw hc1 hm1
  rw [o2, eI (by omega) (by omega)]
  refine ⟨fun e => by subst e; exact o4, fun h => ?_⟩
  by_cases e : o = c
  · exact e
  · rcases hS.hei hc1 with ⟨e1, e2⟩ | ⟨p, e1, e2, e3, e4, -⟩
    · rw [isa_root e1 (fun z => e z.symm)] at o5; cases o5
    · rw [isa_up hS.par h12 hc1 e1 e2 (fun z => e z.symm)] at o5
      have := (own_inh hS o3 p (by omega) o5).1
      unfold ownFrom at h
      rw [e2, if_neg (pI (by omega)), cI (by omega)] at h
      omega
theorem nth_own (hS : RelS sc n mc rt hc κ ρ) {c w : Nat} {way : Int32} (hc1 : c < n) (hw : way ≠ 2) : nth (isColW way ρ c) (mc c) 0 w = nth (isCol ρ c) (mc c - ownFrom mc ρ c) (ownFrom mc ρ c) w := by
  have hle := ownFrom_le hS hc1
  have e : mc c = (mc c - ownFrom mc ρ c) + ownFrom mc ρ c := by omega
  conv => lhs; rw [e]
  rw [nth_skip (p := isColW way ρ c) (ownFrom mc ρ c) 0 (fun i _ hi => decide_eq_false (fun h => ?_)), Nat.zero_add]
  · refine nth_cg _ _ _ (fun i a b => ?_)
    unfold isColW isCol
    have := (own_iff hS hc1 (show i < mc c by omega)).mpr a
    simp only [this, or_true, and_true]
  · rcases h.2 with h | h
    · exact hw h
    · have := (own_iff hS hc1 (show i < mc c by omega)).mp h
      omega
/-! the class's -/
theorem c_firstOwn (hG : Ly G) (hC : StC κ) (hS : RelS sc n mc rt hc κ ρ) {Q : Int32 → Mem → Prop} {c : Nat} (h : c < n) (k : Q (nI (ownFrom mc ρ c)) (mg κ ρ1)) : X_X5_firstOwn G Q 13 (nI c) (mg κ ρ1) := by
  have hL := hG.1
  have h1 := hS.s2
  have h2 := hS.le
  have hT := hG.s h1
  have hK := hC.ss h1
  simp (disch := omega) only [X_X5_firstOwn, X_X5_firstOwn_0, X_X5_firstOwn_32, mI_c, mR_c, hL.1, hC.1, hS.r13, lT, lF, tT, tF, eF, pF, zT, m1F, vT, cI, true_and, and_true, true_implies, false_implies, not_false_eq_true, not_true_eq_false, forall_eq, implies_true, hT.1, hT.2.1, hK.1, hK.2.1, (hS.cls h).1]
  rcases hS.hei h with ⟨e1, e2⟩ | ⟨p, e1, e2, e3, e4, -⟩
  · rw [e1]
    refine c_kindAt0 hG hC hS (noC_m1 n) (brT rfl ?_)
    unfold ownFrom at k
    rw [e1, if_pos m1_neg] at k
    exact k
  · rw [e2]
    unfold ownFrom at k
    rw [e2, if_neg (pI (by omega)), cI (by omega)] at k
    refine c_kindAt1 hG hC hS (show p < n by omega) (brF (by omega) ?_)
    simp (disch := omega) only [mI_c, hT.2.1, true_and, (hS.cls (show p < n by omega)).2.2.2.1]
    exact k
theorem c_columnFrom (hG : Ly G) (hC : StC κ) (hS : RelS sc n mc rt hc κ ρ) {Q : Int32 → Mem → Prop} {c fr w : Nat} (h : c < n) (hf : fr ≤ mc c) (hw : w < 2147483648) (k : Q (ansN (nth (isCol ρ c) (mc c - fr) fr w)) (mg κ ρ1)) : X_X5_columnFrom G Q 13 (nI c) (nI fr) (nI w) (mg κ ρ1) := by
  have hL := hG.1
  have h1 := hS.s2
  have h2 := hS.le
  have hT := hG.s h1
  have hK := hC.ss h1
  have h16 := hS.m16 h
  have hmc := (hS.cls h).2.2.2.1
  simp (disch := omega) only [X_X5_columnFrom, X_X5_columnFrom_0, mR_c, hL.1, hC.1, hS.r13, lT, lF, tT, tF, eF, pF, zT, m1F, vT, cI, true_and, and_true, true_implies, false_implies, not_false_eq_true, not_true_eq_false, forall_eq, implies_true, hT.1, hT.2.1, hK.1, hK.2.1]
  unfold X_X5_columnFrom_17
  refine Lw.nat (mc c) (fun i y => ∃ w', w' ≤ w ∧ y = (nI w', nI i, mg κ ρ1) ∧ nth (isCol ρ c) (mc c - i) i w' = nth (isCol ρ c) (mc c - fr) fr w) ?_ fr hf _ ⟨w, Nat.le_refl _, rfl, rfl⟩
  rintro K' i y hi ⟨w', hw', rfl, e⟩ hk
  by_cases hlt : i < mc c
  · obtain ⟨g3, g4, g5⟩ := memT hG hS h hlt
    obtain ⟨-, -, q2, -⟩ := hS.mem h hlt
    rw [show mc c - i = (mc c - (i + 1)) + 1 by omega, nth_s] at e
    simp (disch := omega) only [X_X5_columnFrom_17_s, X_X5_columnFrom_53, mI_c, mR_c, lT, lF, tT, tF, eF, pF, zT, m1F, vT, cI, true_and, and_true, true_implies, false_implies, not_false_eq_true, not_true_eq_false, forall_eq, implies_true, hT.1, hT.2.1, hK.1, hK.2.1, hmc, g3, q2, nI_1]
    refine ⟨fun e5 => ?_, fun e5 => ⟨fun z => ?_, fun z => ?_⟩⟩
    · rw [if_neg (by unfold isCol; rw [decide_eq_false (fun x => x e5)]; decide)] at e
      exact hk _ hlt ⟨w', hw', rfl, e⟩
    · have z0 : w' = 0 := (eI (b := 0) (by omega) (by decide)).mp z
      rw [if_pos (by unfold isCol; exact decide_eq_true e5), if_pos z0] at e
      rw [← e] at k
      exact k
    · have z0 : ¬ w' = 0 := fun x => z (by rw [x]; rfl)
      rw [if_pos (by unfold isCol; exact decide_eq_true e5), if_neg z0] at e
      rw [d1I (by omega)]
      exact hk _ hlt ⟨w' - 1, by omega, rfl, e⟩
  · obtain rfl : i = mc c := by omega
    rw [Nat.sub_self] at e
    simp (disch := omega) only [X_X5_columnFrom_17_s, mI_c, hT.2.1, true_and, hmc]
    rw [← e] at k
    exact brT (Int32.le_refl _) k
theorem c_ownColumn (hG : Ly G) (hC : StC κ) (hS : RelS sc n mc rt hc κ ρ) {Q : Int32 → Mem → Prop} {c w : Nat} (h : c < n) (hw : w < 2147483648) (k : Q (ansN (nth (isCol ρ c) (mc c - ownFrom mc ρ c) (ownFrom mc ρ c) w)) (mg κ ρ1)) : X_X5_ownColumn G Q 13 (nI c) (nI w) (mg κ ρ1) := by
  have hL := hG.1
  simp (disch := omega) only [X_X5_ownColumn, X_X5_ownColumn_0, hL.1, true_and]
  exact c_firstOwn hG hC hS h (c_columnFrom hG hC hS h (ownFrom_le hS h) hw k)
theorem c_ownColumns (hG : Ly G) (hC : StC κ) (hS : RelS sc n mc rt hc κ ρ) {Q : Int32 → Mem → Prop} {c : Nat} (h : c < n) (k : Q (nI (cnp (isCol ρ c) (mc c - ownFrom mc ρ c) (ownFrom mc ρ c))) (mg κ ρ1)) : X_X5_ownColumns G Q 13 (nI c) (mg κ ρ1) := by
  have hL := hG.1
  have h1 := hS.s2
  have h2 := hS.le
  have hT := hG.s h1
  have hK := hC.ss h1
  have h16 := hS.m16 h
  have hmc := (hS.cls h).2.2.2.1
  simp (disch := omega) only [X_X5_ownColumns, X_X5_ownColumns_0, mR_c, hL.1, hC.1, hS.r13, lT, lF, tT, tF, eF, pF, zT, m1F, vT, cI, true_and, and_true, true_implies, false_implies, not_false_eq_true, not_true_eq_false, forall_eq, implies_true, hT.1, hT.2.1, hK.1, hK.2.1]
  refine c_firstOwn hG hC hS h ?_
  unfold X_X5_ownColumns_19
  refine Lw.nat (mc c) (fun i y => ∃ t, t ≤ i ∧ y = (nI t, nI i, mg κ ρ1) ∧ t + cnp (isCol ρ c) (mc c - i) i = cnp (isCol ρ c) (mc c - ownFrom mc ρ c) (ownFrom mc ρ c)) ?_ _ (ownFrom_le hS h) _ ⟨0, Nat.zero_le _, rfl, Nat.zero_add _⟩
  rintro K' i y hi ⟨t, ht, rfl, e⟩ hk
  by_cases hlt : i < mc c
  · obtain ⟨g3, g4, g5⟩ := memT hG hS h hlt
    obtain ⟨-, -, q2, -⟩ := hS.mem h hlt
    rw [show mc c - i = (mc c - (i + 1)) + 1 by omega, cnp_s] at e
    simp (disch := omega) only [X_X5_ownColumns_19_s, X_X5_ownColumns_45, mI_c, mR_c, lT, lF, tT, tF, eF, pF, zT, m1F, vT, cI, true_and, and_true, true_implies, false_implies, not_false_eq_true, not_true_eq_false, forall_eq, implies_true, hT.1, hT.2.1, hK.1, hK.2.1, hmc, g3, q2, nI_1]
    refine ⟨fun e5 => ?_, fun e5 => ?_⟩
    · rw [if_neg (by unfold isCol; rw [decide_eq_false (fun x => x e5)]; decide)] at e
      exact hk _ hlt ⟨t, by omega, rfl, by rw [← e]; omega⟩
    · rw [if_pos (by unfold isCol; exact decide_eq_true e5)] at e
      exact hk _ hlt ⟨t + 1, by omega, rfl, by rw [← e]; omega⟩
  · obtain rfl : i = mc c := by omega
    rw [Nat.sub_self] at e
    simp (disch := omega) only [X_X5_ownColumns_19_s, mI_c, hT.2.1, true_and, hmc]
    rw [← e] at k
    exact brT (Int32.le_refl _) k
end CELL
