/-! rows of bits -/
def bitsN (p : Nat → Bool) : Nat → Nat
  | 0 => 0
  | m + 1 => bitsN p m + if p m = true then 2 ^ m else 0
def cntB (p : Nat → Bool) : Nat → Nat
  | 0 => 0
  | m + 1 => cntB p m + if p m = true then 1 else 0
def popc : Nat → Nat → Nat
  | 0, _ => 0
  | m + 1, B => popc m B + B / 2 ^ m % 2
def pc1 (x : Nat) : Nat := x - (x / 2 &&& 1431655765)
def pc2 (a : Nat) : Nat := (a &&& 858993459) + (a / 4 &&& 858993459)
def pc3 (b : Nat) : Nat := (b + b / 16) &&& 252645135
def pc4 (c : Nat) : Nat := (c + c / 256 + (c + c / 256) / 65536) % 64
def pcE (x : Nat) : Nat := pc4 (pc3 (pc2 (pc1 x)))
def allC : Nat → Nat → Nat → Bool
  | 0, x, c => Nat.beq (pcE x) c
  | d + 1, x, c => allC d (2 * x) c && allC d (2 * x + 1) (c + 1)
section BITS
variable {p : Nat → Bool} {m n B : Nat}
theorem bitsN_lt : ∀ n, bitsN p n < 2 ^ n := by
  intro n
  induction n with
  | zero => exact Nat.lt_succ_self 0
  | succ n ih =>
    show bitsN p n + (if p n = true then 2 ^ n else 0) < 2 ^ (n + 1)
    rw [Nat.pow_succ]
    by_cases e : p n = true
    · rw [if_pos e]; omega
    · rw [if_neg e]; omega
theorem bitsN_tb : ∀ n, m < n → (bitsN p n).testBit m = p m := by
  intro n
  induction n with
  | zero => intro h; omega
  | succ n ih =>
    intro h
    show (bitsN p n + (if p n = true then 2 ^ n else 0)).testBit m = p m
    by_cases e : p n = true
    · rw [if_pos e, Nat.add_comm]
      by_cases em : m = n
      · subst em
        rw [Nat.testBit_two_pow_add_eq, Nat.testBit_lt_two_pow (bitsN_lt m), e]; rfl
      · rw [Nat.testBit_two_pow_add_gt (by omega)]; exact ih (by omega)
    · rw [if_neg e, Nat.add_zero]
      by_cases em : m = n
      · subst em
        rw [Nat.testBit_lt_two_pow (bitsN_lt m)]
        cases ep : p m
        · rfl
        · exact absurd ep e
      · exact ih (by omega)
theorem bitsN_cg {q : Nat → Bool} : ∀ n, (∀ m, m < n → p m = q m) → bitsN p n = bitsN q n := by
  intro n
  induction n with
  | zero => intro _; rfl
  | succ n ih =>
    intro h
    show bitsN p n + _ = bitsN q n + _
    rw [ih (fun m hm => h m (by omega)), h n (by omega)]
theorem cntB_cg {q : Nat → Bool} : ∀ n, (∀ m, m < n → p m = q m) → cntB p n = cntB q n := by
  intro n
  induction n with
  | zero => intro _; rfl
  | succ n ih =>
    intro h
    show cntB p n + _ = cntB q n + _
    rw [ih (fun m hm => h m (by omega)), h n (by omega)]
theorem cntB_le : ∀ n, cntB p n ≤ n := by
  intro n
  induction n with
  | zero => exact Nat.le_refl _
  | succ n ih =>
    show cntB p n + (if p n = true then 1 else 0) ≤ n + 1
    by_cases e : p n = true
    · rw [if_pos e]; omega
    · rw [if_neg e]; omega
theorem cntB_ext {c : Nat} : ∀ n, c ≤ n → (∀ m, c ≤ m → m < n → p m = false) → cntB p n = cntB p c := by
  intro n
  induction n with
  | zero => intro h _; rw [Nat.le_zero.mp h]
  | succ n ih =>
    intro h h2
    by_cases e : c = n + 1
    · rw [e]
    · show cntB p n + _ = _
      rw [h2 n (by omega) (by omega), ih (by omega) (fun m a b => h2 m a (by omega))]; rfl
theorem cntB_0 : ∀ n, cntB p n = 0 ↔ ∀ m, m < n → p m = false := by
  intro n
  induction n with
  | zero => exact ⟨fun _ m h => by omega, fun _ => rfl⟩
  | succ n ih =>
    show cntB p n + (if p n = true then 1 else 0) = 0 ↔ _
    cases e : p n
    · rw [if_neg (by decide), Nat.add_zero, ih]
      exact ⟨fun h m hm => by
        by_cases em : m = n
        · rw [em]; exact e
        · exact h m (by omega), fun h m hm => h m (by omega)⟩
    · rw [if_pos rfl]
      exact ⟨fun h => by omega, fun h => by have := h n (by omega); rw [e] at this; cases this⟩
theorem bitsN_0 : ∀ n, bitsN p n = 0 ↔ ∀ m, m < n → p m = false := by
  intro n
  induction n with
  | zero => exact ⟨fun _ m h => by omega, fun _ => rfl⟩
  | succ n ih =>
    show bitsN p n + (if p n = true then 2 ^ n else 0) = 0 ↔ _
    have := Nat.two_pow_pos n
    cases e : p n
    · rw [if_neg (by decide), Nat.add_zero, ih]
      exact ⟨fun h m hm => by
        by_cases em : m = n
        · rw [em]; exact e
        · exact h m (by omega), fun h m hm => h m (by omega)⟩
    · rw [if_pos rfl]
      exact ⟨fun h => by omega, fun h => by have := h n (by omega); rw [e] at this; cases this⟩
theorem popc_cnt : ∀ n, popc n B = cntB (fun m => B.testBit m) n := by
  intro n
  induction n with
  | zero => rfl
  | succ n ih =>
    show popc n B + B / 2 ^ n % 2 = cntB _ n + if B.testBit n = true then 1 else 0
    rw [ih, Nat.testBit_eq_decide_div_mod_eq]
    congr 1
    by_cases e : B / 2 ^ n % 2 = 1
    · rw [if_pos (decide_eq_true e)]; exact e
    · rw [if_neg (fun h => e (of_decide_eq_true h))]
      have := Nat.mod_lt (B / 2 ^ n) (show 2 > 0 by decide)
      omega
theorem allC_get : ∀ d x c, allC d x c = true → ∀ y, y / 2 ^ d = x → pcE y = c + popc d y := by
  intro d
  induction d with
  | zero =>
    intro x c h y hy
    rw [Nat.pow_zero, Nat.div_one] at hy
    rw [hy]; exact Nat.eq_of_beq_eq_true h
  | succ d ih =>
    intro x c h y hy
    obtain ⟨h1, h2⟩ := Bool.and_eq_true_iff.mp h
    rw [Nat.pow_succ, ← Nat.div_div_eq_div_mul] at hy
    show pcE y = c + (popc d y + y / 2 ^ d % 2)
    by_cases e : y / 2 ^ d = 2 * x
    · rw [ih _ _ h1 y e]; omega
    · have e2 : y / 2 ^ d = 2 * x + 1 := by omega
      rw [ih _ _ h2 y e2]; omega
set_option maxRecDepth 100000 in
theorem pc_all : allC 16 0 0 = true := by decide +kernel
theorem pcE_is (h : B < 65536) : pcE B = popc 16 B := by
  have := allC_get 16 0 0 pc_all B (Nat.div_eq_of_lt h)
  rw [Nat.zero_add] at this
  exact this
theorem sl16 : ∀ m, m < 16 → ((nI m &&& 31).toBitVec.smod 32).toNat = m := by decide +kernel
theorem bvI {a b : Int32} (h : a.toBitVec = b.toBitVec) : a = b := Int32.toBitVec_inj.mp h
theorem or_nI (a b : Nat) : nI a ||| nI b = nI (a ||| b) := bvI (by
  show BitVec.ofNat 32 a ||| BitVec.ofNat 32 b = BitVec.ofNat 32 (a ||| b)
  exact BitVec.ofNat_or.symm)
theorem and_nI (a b : Nat) : nI a &&& nI b = nI (a &&& b) := bvI (by
  show BitVec.ofNat 32 a &&& BitVec.ofNat 32 b = BitVec.ofNat 32 (a &&& b)
  exact BitVec.ofNat_and.symm)
theorem or_bit (hm : m < 16) : nI (bitsN p m) ||| ((1 : Int32) <<< (nI m &&& 31)) = nI (bitsN p m + 2 ^ m) := by
  have h2 : 2 ^ m < 2 ^ 16 := Nat.pow_lt_pow_right (by decide) hm
  rw [show (1 : Int32) = nI 1 from rfl, pk_shlN _ m (sl16 m hm) (by omega), or_nI, Nat.one_mul]
  congr 1
  have := Nat.two_pow_add_eq_or_of_lt (bitsN_lt (p := p) m) 1
  rw [Nat.mul_one] at this
  rw [Nat.or_comm, ← this, Nat.add_comm]
theorem and1 (y : Int32) : (y &&& 1) = 0 ↔ y.toBitVec.getLsbD 0 = false := by
  rw [pk_and y 1 (by decide)]
  show nI _ = nI 0 ↔ Nat.testBit _ 0 = false
  have := Nat.mod_lt y.toBitVec.toNat (show 2 > 0 by decide)
  rw [nI_eq (by omega) (by decide), Nat.testBit_zero, decide_eq_false_iff_not]
  omega
theorem shr_lsb (x : Int32) (hm : m < 16) : (x >>> (nI m &&& 31)).toBitVec.getLsbD 0 = x.toBitVec.getLsbD m := by
  rw [Int32.toBitVec_shiftRight]
  show (x.toBitVec.sshiftRight ((nI m &&& 31).toBitVec.smod 32).toNat).getLsbD 0 = _
  rw [sl16 m hm, BitVec.getLsbD_sshiftRight]
  simp
  omega
theorem tb_nI (hm : m < 16) : (nI B).toBitVec.getLsbD m = B.testBit m := by
  show (BitVec.ofNat 32 B).getLsbD m = _
  rw [BitVec.getLsbD_ofNat, decide_eq_true (by omega), Bool.true_and]
theorem tb0 (hm : m < 16) : (((nI B >>> (nI m &&& 31)) &&& (1 : Int32)) = 0) = (B.testBit m = false) := by
  rw [and1, shr_lsb _ hm, tb_nI hm]
theorem m1_tb : ∀ m, m < 16 → (-1 : Int32).toBitVec.getLsbD m = true := by decide +kernel
theorem tbn (hm : m < 16) : ((((nI B ^^^ (-1 : Int32)) >>> (nI m &&& 31)) &&& (1 : Int32)) = 0) = (B.testBit m = true) := by
  rw [and1, shr_lsb _ hm, Int32.toBitVec_xor, BitVec.getLsbD_xor, tb_nI hm, m1_tb m hm]
  cases B.testBit m <;> simp
theorem ushN {a : Nat} (h : a < 4294967296) (s : Int32) (k : Nat) (hs : ((s.toUInt32 &&& Int32.toUInt32 31).toBitVec % 32).toNat = k) : ushr32 (nI a) s = nI (a / 2 ^ k) := pk_ushrN h s k hs
theorem j6_bits {G : Lay} {Q : Int32 → Mem → Prop} {σ : Mem} (q : Q (nI (cntB p 16)) σ) : X_J6_bitCount_0f7a4 G Q (nI (bitsN p 16)) σ := by
  have hB : bitsN p 16 < 65536 := bitsN_lt 16
  have e : pcE (bitsN p 16) = cntB p 16 := by
    rw [pcE_is hB, popc_cnt]
    exact cntB_cg 16 (fun m hm => bitsN_tb 16 hm)
  rw [← e] at q
  unfold pcE at q
  generalize bitsN p 16 = x at q hB
  have l1 : x / 2 &&& 1431655765 ≤ x := Nat.le_trans Nat.and_le_left (Nat.div_le_self _ _)
  have la : pc1 x < 65536 := by unfold pc1; omega
  have ea : x - (x / 2 ^ 1 &&& 1431655765) = pc1 x := rfl
  generalize pc1 x = a at q la ea
  have l2 : a &&& 858993459 ≤ a := Nat.and_le_left
  have l3 : a / 4 &&& 858993459 ≤ a / 4 := Nat.and_le_left
  have lb : pc2 a < 131072 := by unfold pc2; omega
  have eb : (a &&& 858993459) + (a / 2 ^ 2 &&& 858993459) = pc2 a := rfl
  generalize pc2 a = b at q lb eb
  have l4 : (b + b / 16) &&& 252645135 ≤ b + b / 16 := Nat.and_le_left
  have lc : pc3 b < 262144 := by unfold pc3; omega
  have ec : (b + b / 2 ^ 4) &&& 252645135 = pc3 b := rfl
  generalize pc3 b = c at q lc ec
  simp only [X_J6_bitCount_0f7a4, X_J6_bitCount_0f7a4_0, show (1431655765 : Int32) = nI 1431655765 from rfl, show (858993459 : Int32) = nI 858993459 from rfl, show (252645135 : Int32) = nI 252645135 from rfl]
  rw [ushN (a := x) (by omega) 1 1 (by decide), and_nI, pk_sub (by simpa using l1), ea, ushN (a := a) (by omega) 2 2 (by decide), and_nI, and_nI, nI_add, eb, ushN (a := b) (by omega) 4 4 (by decide), nI_add, and_nI, ec, ushN (a := c) (by omega) 8 8 (by decide), nI_add, ushN (a := c + c / 2 ^ 8) (by omega) 16 16 (by decide), nI_add, pk_andN (by omega) 6 (by decide)]
  exact q
end BITS
section CHG
variable {G : Lay} {κ ρ κ1 ρ1 : Mem} {u k : Nat}
/-- which values of an object are not its copy's -/
def chgM (ρ : Mem) (p m : Nat) : Bool := decide (mI ρ 1324 (16 * p + m) ≠ mI ρ 1325 (16 * p + m))
theorem c_changes (hL : LyC G) (hC : StC κ) (hu : u < 4) (hk : k < 60) (t6 : ∀ m, m < 16 → mI κ (538 + 184 * u + 3 * k) m = mI ρ 1324 (16 * (60 * u + k) + m) ∧ mI κ (539 + 184 * u + 3 * k) m = mI ρ 1325 (16 * (60 * u + k) + m)) {Q : Int32 → Mem → Prop} (q : Q (nI (bitsN (chgM ρ (60 * u + k)) 16)) (mg κ ρ1)) : X_X7_changes G Q (537 + 184 * u + 3 * k) (mg κ ρ1) := by
  simp only [X_X7_changes_31, X_X7_changes_0, X_X7_changes, X_X7_changes_4]
  refine Lw.nat 16 (fun i x => x = (nI (bitsN (chgM ρ (60 * u + k)) i), nI i, mg κ ρ1)) ?_ 0 (by omega) _ rfl
  rintro K' i x hi rfl hk'
  by_cases h : i < 16
  · simp (disch := omega) only [X_X7_changes_4_s, X_X7_changes_31, show (16 : Int32) = nI 16 from rfl, mI_c, mR_c, mJ_c, sI_c, sJ_c, sR_c, hL.1, hL.2.1, hL.2.2, hC.1, hC.2.1, hC.2.2.1, lT, lF, tT, tF, eF, pF, zT, m1F, vT, cI, true_and, and_true, true_implies, false_implies, not_false_eq_true, not_true_eq_false, forall_eq, implies_true, (t6 i h).1, (t6 i h).2, nI_1, or_bit]
    refine ⟨fun e => hk' _ h ?_, fun e => hk' _ h ?_⟩
    · show _ = (nI (bitsN _ i + if decide _ = true then 2 ^ i else 0), _)
      rw [if_neg (by rw [decide_eq_true_iff]; exact fun z => z e)]; rfl
    · show _ = (nI (bitsN _ i + if decide _ = true then 2 ^ i else 0), _)
      rw [if_pos (by rw [decide_eq_true_iff]; exact e)]
  · obtain rfl : i = 16 := by omega
    exact brT (by decide) q
theorem m_changed (hM : LyM G) (hm : StM ρ) {p c w : Nat} (hp : p < 240) (hc : c < 12) (ec : mI ρ 1322 p = nI c) (ew : mI ρ 1287 c = nI w) (hw : w ≤ 16) {Q : Int32 → Mem → Prop} (q : Q (nI (cntB (chgM ρ p) w)) (mg κ1 ρ)) : X_X12_changed G Q 1282 (nI p) (mg κ1 ρ) := by
  simp only [X_X12_changed_50, X_X12_changed_0, X_X12_changed, X_X12_changed_4]
  refine Lw.nat w (fun i x => x = (nI (cntB (chgM ρ p) i), nI i, mg κ1 ρ)) ?_ 0 (by omega) _ rfl
  rintro K' i x hi rfl hk'
  by_cases h : i < w
  · simp (disch := omega) only [X_X12_changed_4_s, X_X12_changed_50, show (16 : Int32) = nI 16 from rfl, pk_mul, nI_add, mI_m, mR_m, mJ_m, sI_m, sJ_m, hM.1, hM.2, hm.1, hm.2, lT, lF, tT, tF, eF, pF, zT, m1F, vT, cI, true_and, and_true, true_implies, false_implies, not_false_eq_true, not_true_eq_false, forall_eq, implies_true, ec, ew, nI_1]
    refine ⟨fun e => hk' _ h ?_, fun e => hk' _ h ?_⟩
    · show _ = (nI (cntB _ i + if decide _ = true then 1 else 0), _)
      rw [if_neg (by rw [decide_eq_true_iff]; exact fun z => z e), show (0 : Int32) = nI 0 from rfl, nI_add]
    · show _ = (nI (cntB _ i + if decide _ = true then 1 else 0), _)
      rw [if_pos (by rw [decide_eq_true_iff]; exact e)]
  · obtain rfl : i = w := by omega
    simp (disch := omega) only [X_X12_changed_4_s, mI_m, mR_m, mJ_m, sI_m, sJ_m, hM.1, hM.2, hm.1, hm.2, lT, lF, tT, tF, eF, pF, zT, m1F, vT, cI, true_and, and_true, true_implies, false_implies, not_false_eq_true, not_true_eq_false, forall_eq, implies_true, ec, ew]
    exact q
end CHG
