/-! tokens: of a row of bytes B, z of them -/
def blk (b : Nat) : Bool := decide (b = 9 ∨ b = 10 ∨ b = 13 ∨ b = 32)
def ltt (b : Nat) : Bool := decide (97 ≤ b ∧ b ≤ 122 ∨ 65 ≤ b ∧ b ≤ 90)
def dgt (b : Nat) : Bool := decide (48 ≤ b ∧ b ≤ 57)
def sgn (b : Nat) : Bool := decide (b = 123 ∨ b = 125 ∨ b = 40 ∨ b = 41 ∨ b = 58 ∨ b = 59 ∨ b = 44 ∨ b = 46 ∨ b = 61 ∨ b = 60 ∨ b = 62 ∨ b = 43 ∨ b = 45)
def wrd (b : Nat) : Bool := ltt b || dgt b
def runF (p : Nat → Bool) (B : Nat → Nat) : Nat → Nat → Nat
  | 0, i => i
  | d + 1, i => if p (B i) = true then runF p B d (i + 1) else i
def run (p : Nat → Bool) (B : Nat → Nat) (z i : Nat) : Nat := runF p B (z - i) i
def nx (B : Nat → Nat) (z i : Nat) : Nat := run blk B z i
def eTk (B : Nat → Nat) (z p : Nat) : Nat := if ltt (B p) = true then run wrd B z (p + 1) else if dgt (B p) = true then run dgt B z (p + 1) else p + 1
/-- END 0, BAD 1, WORD 2, NUMBER 3, SIGN 4 -/
def tkd (B : Nat → Nat) (z p : Nat) : Nat := if z ≤ p then 0 else if ltt (B p) = true then (if eTk B z p - p ≤ 8 then 2 else 1) else if dgt (B p) = true then (if eTk B z p - p ≤ 6 then 3 else 1) else if sgn (B p) = true then 4 else 1
def c8 (B : Nat → Nat) (p : Nat) : Nat → Nat
  | 0 => 0
  | n + 1 => 256 * c8 B p n + B (p + n)
def c6 (B : Nat → Nat) (p : Nat) : Nat → Nat
  | 0 => 0
  | n + 1 => 64 * c6 B p n + ltr (B (p + n))
def cd (B : Nat → Nat) (p : Nat) : Nat → Nat
  | 0 => 0
  | n + 1 => 10 * cd B p n + (B (p + n) - 48)
/-- where the i-th token begins -/
def pos (B : Nat → Nat) (z : Nat) : Nat → Nat
  | 0 => nx B z 0
  | i + 1 => if pos B z i < z then nx B z (eTk B z (pos B z i)) else z
section TOKP
variable {p : Nat → Bool} {B : Nat → Nat} {z i : Nat}
theorem run_ge (h : z ≤ i) : run p B z i = i := by
  unfold run
  rw [show z - i = 0 by omega]; rfl
theorem run_t (h : i < z) (hp : p (B i) = true) : run p B z i = run p B z (i + 1) := by
  unfold run
  rw [show z - i = z - (i + 1) + 1 by omega]
  exact if_pos hp
theorem run_f (hp : ¬ p (B i) = true) : run p B z i = i := by
  by_cases h : z ≤ i
  · exact run_ge h
  · unfold run
    rw [show z - i = z - (i + 1) + 1 by omega]
    exact if_neg hp
theorem run_le : ∀ d i, z - i = d → i ≤ z → i ≤ run p B z i ∧ run p B z i ≤ z ∧ (∀ j, i ≤ j → j < run p B z i → p (B j) = true) ∧ (run p B z i < z → ¬ p (B (run p B z i)) = true) := by
  intro d
  induction d with
  | zero =>
    intro i hd hi
    rw [run_ge (by omega)]
    exact ⟨Nat.le_refl _, hi, fun j h1 h2 => by omega, fun h => by omega⟩
  | succ d ih =>
    intro i hd hi
    by_cases hp : p (B i) = true
    · rw [run_t (by omega) hp]
      obtain ⟨a1, a2, a3, a4⟩ := ih (i + 1) (by omega) (by omega)
      refine ⟨by omega, a2, fun j h1 h2 => ?_, a4⟩
      by_cases e : j = i
      · rw [e]; exact hp
      · exact a3 j (by omega) h2
    · rw [run_f hp]
      exact ⟨Nat.le_refl _, hi, fun j h1 h2 => by omega, fun _ => hp⟩
theorem run_ok (h : i ≤ z) : i ≤ run p B z i ∧ run p B z i ≤ z ∧ (∀ j, i ≤ j → j < run p B z i → p (B j) = true) ∧ (run p B z i < z → ¬ p (B (run p B z i)) = true) := run_le (z - i) i rfl h
/-- a token ends behind its beginning -/
theorem eTk_ok (h : i < z) : i < eTk B z i ∧ eTk B z i ≤ z := by
  unfold eTk
  by_cases a : ltt (B i) = true
  · rw [if_pos a]; have := run_ok (p := wrd) (B := B) (z := z) (i := i + 1) (by omega); omega
  · rw [if_neg a]
    by_cases b : dgt (B i) = true
    · rw [if_pos b]; have := run_ok (p := dgt) (B := B) (z := z) (i := i + 1) (by omega); omega
    · rw [if_neg b]; omega
theorem pos_le : ∀ i, pos B z i ≤ z := by
  intro i
  cases i with
  | zero => exact (run_ok (p := blk) (B := B) (z := z) (i := 0) (Nat.zero_le _)).2.1
  | succ i =>
    show (if pos B z i < z then nx B z (eTk B z (pos B z i)) else z) ≤ z
    by_cases h : pos B z i < z
    · rw [if_pos h]; exact (run_ok (p := blk) (eTk_ok h).2).2.1
    · rw [if_neg h]; omega
end TOKP
/-! bytes as the two see them -/
theorem bb_lo : ∀ b, b < 128 → bb b = nI b := by decide +kernel
theorem bb_blk : ∀ b, b < 256 → ((bb b = 9 ∨ bb b = 10 ∨ bb b = 13 ∨ bb b = 32) ↔ blk b = true) := by decide +kernel
theorem bb_ltt : ∀ b, b < 256 → (((¬ bb b < 97 ∧ bb b ≤ 122) ∨ (¬ bb b < 65 ∧ ¬ 90 < bb b)) ↔ ltt b = true) := by decide +kernel
theorem bb_dgt : ∀ b, b < 256 → ((¬ bb b < 48 ∧ ¬ 57 < bb b) ↔ dgt b = true) := by decide +kernel
theorem bb_sgn : ∀ b, b < 256 → (0 ≤ ((((bb b) &&& (255 : Int32)).toUInt32 % 65536).toInt32) ∧ ((((bb b) &&& (255 : Int32)).toUInt32 % 65536).toInt32) ≤ 255) ∧ (sgIx ((((bb b) &&& (255 : Int32)).toUInt32 % 65536).toInt32) < 0 ↔ sgn b = false) := by decide +kernel
theorem sgn_lo : ∀ b, b < 256 → sgn b = true → b < 128 := by decide +kernel
theorem ltt_lo : ∀ b, b < 256 → wrd b = true → b < 128 := by decide +kernel
theorem wrd_ltr : ∀ b, b < 256 → (wrd b = true ↔ 0 < ltr b) := by decide +kernel
theorem ltt_ltr : ∀ b, b < 256 → (ltt b = true ↔ 0 < ltr b ∧ ltr b < 53) := by decide +kernel
theorem dgt_ltr : ∀ b, b < 256 → (dgt b = true ↔ 53 ≤ ltr b) := by decide +kernel
theorem ltr_62 : ∀ b, b < 256 → ltr b ≤ 62 := by decide +kernel
theorem blk_no : ∀ b, b < 256 → blk b = true → ltt b = false ∧ dgt b = false := by decide +kernel
theorem sI_id (σ : Mem) (a k : Nat) (v : Int32) (h : mI σ a k = v) : sI σ a k v = σ := by
  unfold sI up2
  refine Prod.ext ?_ rfl
  funext b j
  show (if b = a ∧ j = k then v else σ.1 b j) = σ.1 b j
  by_cases e : b = a ∧ j = k
  · rw [if_pos e, e.1, e.2]; exact h.symm
  · rw [if_neg e]
/-- the tape -/
def BtM (ρ : Mem) (B : Nat → Nat) (z : Nat) : Prop := mI ρ 1282 1 = nI z ∧ z ≤ 3000 ∧ ∀ k, k < z → mI ρ 1283 k = nI (B k) ∧ B k < 256
def BtC (κ : Mem) (B : Nat → Nat) (z : Nat) : Prop := z ≤ 3000 ∧ ∀ k, k < z → mI κ 2 k = bb (B k) ∧ B k < 256
theorem RelT.bt {κ ρ : Mem} (h : RelT κ ρ) : ∃ B z, BtM ρ B z ∧ BtC κ B z ∧ mI κ 1 1 = nI z := by
  obtain ⟨z, z1, z2, z3, z4⟩ := h
  refine ⟨fun k => (mI ρ 1283 k).toNatClampNeg, z, ⟨z3, z1, fun k hk => ?_⟩, ⟨z1, fun k hk => ?_⟩, z2⟩
  · obtain ⟨b, b1, b2, b3⟩ := z4 k hk
    show mI ρ 1283 k = nI (mI ρ 1283 k).toNatClampNeg ∧ (mI ρ 1283 k).toNatClampNeg < 256
    rw [b2, cI (by omega)]; exact ⟨rfl, b1⟩
  · obtain ⟨b, b1, b2, b3⟩ := z4 k hk
    show mI κ 2 k = bb (mI ρ 1283 k).toNatClampNeg ∧ (mI ρ 1283 k).toNatClampNeg < 256
    rw [b2, cI (by omega)]; exact ⟨b3, b1⟩
/-- the reference's token that begins at p -/
def TokM (ρ : Mem) (B : Nat → Nat) (z p : Nat) : Prop := mI ρ 1282 49 = nI p ∧ mI ρ 1282 50 = nI (if p < z then eTk B z p else z) ∧ mI ρ 1282 51 = nI (tkd B z p) ∧ (tkd B z p = 2 → mJ ρ 1282 52 = lN (c6 B p (eTk B z p - p))) ∧ (tkd B z p = 3 → mI ρ 1282 53 = nI (cd B p (eTk B z p - p))) ∧ (tkd B z p = 4 → mI ρ 1282 53 = nI (B p))
section TOKM
variable {G : Lay} {κ ρ κ1 ρ1 : Mem} {B : Nat → Nat} {z : Nat}
theorem m_see1 (hM : LyM G) (hm : StM ρ) (hB : BtM ρ B z) {k : Nat} (hk : k < z) {Q : Int32 → Mem → Prop} (q : Q (nI (B k)) (mg κ1 ρ)) : X_X12_see G Q 1282 (nI k) (mg κ1 ρ) := by
  have hz := hB.2.1
  simp (disch := omega) only [X_X12_see_18, X_X12_see_0, X_X12_see, mI_m, mR_m, mJ_m, sI_m, sJ_m, hM.1, hM.2, hm.1, hm.2, lT, lF, tT, tF, eF, pF, zT, m1F, vT, cI, true_and, and_true, true_implies, false_implies, not_false_eq_true, not_true_eq_false, forall_eq, implies_true, hB.1, (hB.2.2 k hk).1]
  exact q
theorem m_see0 (hM : LyM G) (hm : StM ρ) (hB : BtM ρ B z) {k : Nat} (hk : z ≤ k) (hk2 : k < 2147483648) {Q : Int32 → Mem → Prop} (q : Q (-1) (mg κ1 ρ)) : X_X12_see G Q 1282 (nI k) (mg κ1 ρ) := by
  have hz := hB.2.1
  simp (disch := omega) only [X_X12_see_18, X_X12_see_0, X_X12_see, mI_m, mR_m, mJ_m, sI_m, sJ_m, hM.1, hM.2, hm.1, hm.2, lT, lF, tT, tF, eF, pF, zT, m1F, vT, cI, true_and, and_true, true_implies, false_implies, not_false_eq_true, not_true_eq_false, forall_eq, implies_true, hB.1]
  exact q
theorem m_letterOf {b : Nat} (hb : b < 256) {σ : Mem} {Q : Int32 → Mem → Prop} (q : Q (nI (ltr b)) σ) : X_X12_letterOf G Q (nI b) σ := by
  have n97 : (97 : Int32) = nI 97 := rfl
  have n122 : (122 : Int32) = nI 122 := rfl
  have n65 : (65 : Int32) = nI 65 := rfl
  have n90 : (90 : Int32) = nI 90 := rfl
  have n48 : (48 : Int32) = nI 48 := rfl
  have n57 : (57 : Int32) = nI 57 := rfl
  have n96 : (96 : Int32) = nI 96 := rfl
  have n64 : (64 : Int32) = nI 64 := rfl
  have n26 : (26 : Int32) = nI 26 := rfl
  have n47 : (47 : Int32) = nI 47 := rfl
  have n52 : (52 : Int32) = nI 52 := rfl
  unfold ltr at q
  by_cases h1 : 97 ≤ b ∧ b ≤ 122
  · rw [if_pos h1] at q
    simp (disch := omega) only [X_X12_letterOf_64, X_X12_letterOf_63, X_X12_letterOf_41, X_X12_letterOf_19, X_X12_letterOf_0, X_X12_letterOf, n97, n122, n96, lT, lF, tT, tF, eF, pF, zT, m1F, vT, cI, true_and, and_true, true_implies, false_implies, not_false_eq_true, not_true_eq_false, forall_eq, implies_true, pk_sub]
    exact q
  · rw [if_neg h1] at q
    have r19 : X_X12_letterOf_19 G Q (nI b) σ := by
      by_cases h2 : 65 ≤ b ∧ b ≤ 90
      · rw [if_pos h2] at q
        simp (disch := omega) only [X_X12_letterOf_64, X_X12_letterOf_63, X_X12_letterOf_41, X_X12_letterOf_19, X_X12_letterOf_0, X_X12_letterOf, n65, n90, n64, n26, lT, lF, tT, tF, eF, pF, zT, m1F, vT, cI, true_and, and_true, true_implies, false_implies, not_false_eq_true, not_true_eq_false, forall_eq, implies_true, pk_sub, nI_add]
        exact q
      · rw [if_neg h2] at q
        have r41 : X_X12_letterOf_41 G Q (nI b) σ := by
          by_cases h3 : 48 ≤ b ∧ b ≤ 57
          · rw [if_pos h3] at q
            simp (disch := omega) only [X_X12_letterOf_64, X_X12_letterOf_63, X_X12_letterOf_41, X_X12_letterOf_19, X_X12_letterOf_0, X_X12_letterOf, n48, n57, n47, n52, lT, lF, tT, tF, eF, pF, zT, m1F, vT, cI, true_and, and_true, true_implies, false_implies, not_false_eq_true, not_true_eq_false, forall_eq, implies_true, pk_sub, nI_add]
            exact q
          · rw [if_neg h3] at q
            unfold X_X12_letterOf_41
            by_cases h4 : b < 48
            · exact brT (by rw [n48]; exact (tI (by omega) (by decide)).mpr h4) q
            · exact brF (by rw [n48]; exact fun h => h4 ((tI (by omega) (by decide)).mp h)) (brT (by rw [n57]; exact (tI (by decide) (by omega)).mpr (by omega)) q)
        unfold X_X12_letterOf_19
        by_cases h4 : b < 65
        · exact brT (by rw [n65]; exact (tI (by omega) (by decide)).mpr h4) r41
        · exact brF (by rw [n65]; exact fun h => h4 ((tI (by omega) (by decide)).mp h)) (brT (by rw [n90]; exact (tI (by decide) (by omega)).mpr (by omega)) r41)
    unfold X_X12_letterOf X_X12_letterOf_0
    by_cases h4 : b < 97
    · exact brT (by rw [n97]; exact (tI (by omega) (by decide)).mpr h4) r19
    · exact brF (by rw [n97]; exact fun h => h4 ((tI (by omega) (by decide)).mp h)) (brT (by rw [n122]; exact (tI (by decide) (by omega)).mpr (by omega)) r19)
theorem m_isBlank {x : Int32} {σ : Mem} {Q : Int32 → Mem → Prop} (k1 : (x = 9 ∨ x = 10 ∨ x = 13 ∨ x = 32) → Q 1 σ) (k0 : ¬ (x = 9 ∨ x = 10 ∨ x = 13 ∨ x = 32) → Q 0 σ) : X_X12_isBlank G Q x σ := by
  simp only [X_X12_isBlank_29, X_X12_isBlank_24, X_X12_isBlank_0, X_X12_isBlank, bzT1, bzT0, true_and]
  exact ⟨fun h => k1 (Or.inl h), fun h1 => ⟨fun h => k1 (Or.inr (Or.inl h)), fun h2 => ⟨fun h => k1 (Or.inr (Or.inr (Or.inl h))), fun h3 => ⟨fun h => k1 (Or.inr (Or.inr (Or.inr h))), fun h4 => k0 (by rintro (h | h | h | h) <;> contradiction)⟩⟩⟩⟩
theorem nI_blk : ∀ b, b < 256 → ((nI b = 9 ∨ nI b = 10 ∨ nI b = 13 ∨ nI b = 32) ↔ blk b = true) := by decide +kernel
theorem nI_sgn : ∀ b, b < 256 → ((nI b = 123 ∨ nI b = 125 ∨ nI b = 40 ∨ nI b = 41 ∨ nI b = 58 ∨ nI b = 59 ∨ nI b = 44 ∨ nI b = 46 ∨ nI b = 61 ∨ nI b = 60 ∨ nI b = 62 ∨ nI b = 43 ∨ nI b = 45) ↔ sgn b = true) := by decide +kernel
theorem m_isSign {x : Int32} {σ : Mem} {Q : Int32 → Mem → Prop} (k1 : (x = 123 ∨ x = 125 ∨ x = 40 ∨ x = 41 ∨ x = 58 ∨ x = 59 ∨ x = 44 ∨ x = 46 ∨ x = 61 ∨ x = 60 ∨ x = 62 ∨ x = 43 ∨ x = 45) → Q 1 σ) (k0 : ¬ (x = 123 ∨ x = 125 ∨ x = 40 ∨ x = 41 ∨ x = 58 ∨ x = 59 ∨ x = 44 ∨ x = 46 ∨ x = 61 ∨ x = 60 ∨ x = 62 ∨ x = 43 ∨ x = 45) → Q 0 σ) : X_X12_isSign G Q x σ := by
  simp only [X_X12_isSign_83, X_X12_isSign_78, X_X12_isSign_0, X_X12_isSign, bzT1, bzT0, true_and]
  by_cases h : (x = 123 ∨ x = 125 ∨ x = 40 ∨ x = 41 ∨ x = 58 ∨ x = 59 ∨ x = 44 ∨ x = 46 ∨ x = 61 ∨ x = 60 ∨ x = 62 ∨ x = 43 ∨ x = 45)
  · have q := k1 h
    simp only [q, implies_true, true_and, and_true]
    intro a1 a2 a3 a4 a5 a6 a7 a8 a9 a10 a11 a12 a13
    exact absurd h (by rintro (h | h | h | h | h | h | h | h | h | h | h | h | h) <;> contradiction)
  · have q := k0 h
    simp only [not_or] at h
    simp only [h, q, false_implies, not_false_eq_true, true_implies, true_and, implies_true]
end TOKM
