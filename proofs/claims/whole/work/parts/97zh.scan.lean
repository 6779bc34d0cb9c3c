/-- the class's sort of a token -/
def srt (B : Nat → Nat) (z p : Nat) : Int32 := if tkd B z p = 0 then 0 else if tkd B z p = 1 then 1 else if tkd B z p = 2 then (if lN (c8 B p (eTk B z p - p)) ∈ kwv then 3 else 2) else if tkd B z p = 3 then 4 else 5
/-- the class's j-th token -/
def TkC (κ : Mem) (B : Nat → Nat) (z j p : Nat) : Prop := mI κ 5 j = nI p ∧ mI κ 4 j = srt B z p ∧ (tkd B z p = 2 → mJ κ 6 j = lN (c8 B p (eTk B z p - p))) ∧ (tkd B z p = 3 → mJ κ 6 j = lN (cd B p (eTk B z p - p))) ∧ (tkd B z p = 4 → mJ κ 6 j = lN (B p))
def TokC (κ : Mem) (B : Nat → Nat) (z T : Nat) : Prop := (mI κ 3 3 = nI T ∧ T ≤ z ∧ z ≤ 3000) ∧ pos B z T = z ∧ (∀ j, j < T → pos B z j < z) ∧ ∀ j, j ≤ T → TkC κ B z j (pos B z j)
section SCAN
variable {G : Lay} {κ κ' ρ ρ' κ1 ρ1 : Mem} {B : Nat → Nat} {z p t : Nat}
theorem l_or8 {a b : Nat} (ha : a < 2 ^ 55) (hb : b < 256) : (lN a <<< ((8 : Int32).toInt64 &&& 63)) ||| lN b = lN (256 * a + b) := by
  refine Int64.toBitVec_inj.mp ?_
  rw [Int64.toBitVec_or, Int64.toBitVec_shiftLeft]
  show (BitVec.ofNat 64 a <<< (((8 : Int32).toInt64 &&& 63).toBitVec.smod 64)) ||| BitVec.ofNat 64 b = BitVec.ofNat 64 (256 * a + b)
  rw [show ((8 : Int32).toInt64 &&& 63).toBitVec.smod 64 = 8#64 from by decide]
  refine BitVec.eq_of_toNat_eq ?_
  rw [BitVec.toNat_or, BitVec.shiftLeft_eq', BitVec.toNat_shiftLeft, BitVec.toNat_ofNat, BitVec.toNat_ofNat, BitVec.toNat_ofNat]
  have e8 : 8 % 2 ^ 64 = 8 := by decide
  rw [BitVec.toNat_ofNat, e8, Nat.mod_eq_of_lt (show a < 2 ^ 64 by omega), Nat.mod_eq_of_lt (show b < 2 ^ 64 by omega), Nat.shiftLeft_eq, Nat.mod_eq_of_lt (show a * 2 ^ 8 < 2 ^ 64 by omega), Nat.mod_eq_of_lt (show 256 * a + b < 2 ^ 64 by omega)]
  have := Nat.two_pow_add_eq_or_of_lt (i := 8) (b := b) (by omega) a
  rw [Nat.mul_comm a (2 ^ 8), ← this]
theorem c8_lt {n : Nat} (h : ∀ j, j ≤ n → B (p + j) < 128) : c8 B p (n + 1) < 128 * 2 ^ (8 * n) := by
  induction n with
  | zero =>
    show 256 * 0 + B (p + 0) < 128 * 2 ^ (8 * 0)
    have := h 0 (Nat.le_refl _)
    omega
  | succ n ih =>
    have i := ih (fun j hj => h j (by omega))
    have b := h (n + 1) (Nat.le_refl _)
    show 256 * c8 B p (n + 1) + B (p + (n + 1)) < _
    rw [show 8 * (n + 1) = 8 * n + 8 by omega, Nat.pow_add]
    have : (2 : Nat) ^ 8 = 256 := by decide
    rw [this]
    omega
theorem c8_55 {i : Nat} (h : ∀ j, j < i → B (p + j) < 128) (hi : i < 8) : c8 B p i < 2 ^ 55 := by
  cases i with
  | zero => exact Nat.two_pow_pos 55
  | succ n =>
    have := c8_lt (B := B) (p := p) (n := n) (fun j hj => h j (by omega))
    have h2 : (2 : Nat) ^ (8 * n) ≤ 2 ^ 48 := Nat.pow_le_pow_right (by decide) (by omega)
    have e : (128 : Nat) * 2 ^ 48 = 2 ^ 55 := by decide
    omega
theorem c_isKeyword {x : Int64} {σ : Mem} {Q : Int32 → Mem → Prop} (k1 : x ∈ kwv → Q 1 σ) (k0 : ¬ x ∈ kwv → Q 0 σ) : X_X8_isKeyword G Q x σ := by
  have n23 : (23 : Int32) = nI 23 := rfl
  simp only [X_X8_isKeyword, X_X8_isKeyword_0, X_X8_isKeyword_2]
  refine Lw.find 23 (fun i => kwv.getD i 0 = x) (fun K i hi hj hk => ?_)
  by_cases hlt : i < 23
  · simp (disch := omega) only [X_X8_isKeyword_2_s, n23, lT, lF, tT, tF, eF, pF, zT, m1F, vT, cI, true_and, and_true, true_implies, false_implies, not_false_eq_true, not_true_eq_false, forall_eq, implies_true, lg_cmp_eq, bzT1, nI_1]
    refine ⟨fun e => k1 ?_, fun e => hk hlt e⟩
    rw [← e]
    have hl : i < kwv.length := hlt
    rw [List.getD_eq_getElem?_getD, List.getElem?_eq_getElem hl]
    exact List.getElem_mem _
  · obtain rfl : i = 23 := by omega
    refine brT (by decide) ⟨bz0, k0 (fun h => ?_)⟩
    obtain ⟨i, h1, h2⟩ := List.getElem_of_mem h
    exact hj i h1 (by rw [List.getD_eq_getElem?_getD, List.getElem?_eq_getElem h1]; exact h2)
theorem c_isLetter {b : Nat} (hb : b < 256) {σ : Mem} {Q : Int32 → Mem → Prop} (k1 : ltt b = true → Q 1 σ) (k0 : ¬ ltt b = true → Q 0 σ) : X_X8_isLetter G Q (bb b) σ := by
  have h := bb_ltt b hb
  simp only [X_X8_isLetter_29, X_X8_isLetter_24, X_X8_isLetter_28, X_X8_isLetter_12, X_X8_isLetter_0, X_X8_isLetter, bzT1, bzT0, true_and]
  have r12 : ¬ (¬ bb b < 97 ∧ bb b ≤ 122) → ((bb b < 65 → Q 0 σ) ∧ (¬ bb b < 65 → ((90 < bb b → Q 0 σ) ∧ (¬ 90 < bb b → Q 1 σ)))) := fun hn => ⟨fun a => k0 (fun q => by
    rcases h.mpr q with h' | h'
    · exact hn h'
    · exact h'.1 a), fun a => ⟨fun a2 => k0 (fun q => by
      rcases h.mpr q with h' | h'
      · exact hn h'
      · exact h'.2 a2), fun a2 => k1 (h.mp (Or.inr ⟨a, a2⟩))⟩⟩
  exact ⟨fun a => r12 (fun q => q.1 a), fun a => ⟨fun a2 => k1 (h.mp (Or.inl ⟨a, a2⟩)), fun a2 => r12 (fun q => a2 q.2)⟩⟩
theorem c_isDigit {b : Nat} (hb : b < 256) {σ : Mem} {Q : Int32 → Mem → Prop} (k1 : dgt b = true → Q 1 σ) (k0 : ¬ dgt b = true → Q 0 σ) : X_X8_isDigit G Q (bb b) σ := by
  have h := bb_dgt b hb
  simp only [X_X8_isDigit_17, X_X8_isDigit_16, X_X8_isDigit_0, X_X8_isDigit, bzT1, bzT0, true_and]
  exact ⟨fun a => k0 (fun q => (h.mpr q).1 a), fun a => ⟨fun a2 => k0 (fun q => (h.mpr q).2 a2), fun a2 => k1 (h.mp ⟨a, a2⟩)⟩⟩
theorem c_isBlank {b : Nat} (hb : b < 256) {σ : Mem} {Q : Int32 → Mem → Prop} (k1 : blk b = true → Q 1 σ) (k0 : ¬ blk b = true → Q 0 σ) : X_X8_isBlank G Q (bb b) σ := by
  have h := bb_blk b hb
  simp only [X_X8_isBlank_29, X_X8_isBlank_24, X_X8_isBlank_0, X_X8_isBlank, bzT1, bzT0, true_and]
  exact ⟨fun a => k1 (h.mp (Or.inl a)), fun a1 => ⟨fun a => k1 (h.mp (Or.inr (Or.inl a))), fun a2 => ⟨fun a => k1 (h.mp (Or.inr (Or.inr (Or.inl a)))), fun a3 => ⟨fun a => k1 (h.mp (Or.inr (Or.inr (Or.inr a)))), fun a4 => k0 (fun q => by rcases h.mpr q with q | q | q | q <;> contradiction)⟩⟩⟩⟩
theorem c_endOfToken (hL : LyC G) (hB : BtC κ B z) (hp : p < z) {Q : Int32 → Mem → Prop} (q : Q (nI (eTk B z p)) (mg κ ρ1)) : X_X8_endOfToken G Q 2 (nI p) (nI z) (mg κ ρ1) := by
  have hz := hB.1
  obtain ⟨eb, hb⟩ := hB.2 p hp
  unfold eTk at q
  simp (disch := omega) only [X_X8_endOfToken, X_X8_endOfToken_0, hL.1, mI_c, lT, lF, tT, tF, eF, pF, zT, m1F, vT, cI, true_and, and_true, true_implies, false_implies, not_false_eq_true, not_true_eq_false, forall_eq, implies_true, eb, nI_1]
  refine c_isLetter hb (fun hl => br1 ?_) (fun hl => br0 ?_)
  · rw [if_pos hl] at q
    obtain ⟨a1, a2, a3, a4⟩ := run_ok (p := wrd) (B := B) (z := z) (i := p + 1) (by omega)
    generalize run wrd B z (p + 1) = e at q a1 a2 a3 a4
    unfold X_X8_endOfToken_13
    rw [show p + 1 = p + 1 + 0 by omega]
    refine Lw.seq (fun i => (nI (p + 1 + i), mg κ ρ1)) (e - (p + 1)) (fun K i hi hK => ?_) (fun K => ?_)
    · have hk : p + 1 + i < z := by omega
      obtain ⟨ei, hbi⟩ := hB.2 _ hk
      have hw := a3 (p + 1 + i) (by omega) (by omega)
      simp (disch := omega) only [X_X8_endOfToken_13_s, X_X8_endOfToken_36, hL.1, mI_c, lT, lF, tT, tF, eF, pF, zT, m1F, vT, cI, true_and, and_true, true_implies, false_implies, not_false_eq_true, not_true_eq_false, forall_eq, implies_true, ei, nI_1]
      refine c_isLetter hbi (fun _ => br1 hK) (fun h1 => br0 ?_)
      rw [mI_c (by decide), ei]
      refine c_isDigit hbi (fun _ => br1 hK) (fun h2 => ?_)
      unfold wrd at hw
      rw [Bool.or_eq_true] at hw
      rcases hw with hw | hw <;> contradiction
    · rw [show p + 1 + (e - (p + 1)) = e by omega]
      by_cases h : e < z
      · obtain ⟨ei, hbi⟩ := hB.2 _ h
        have hw := a4 h
        unfold wrd at hw
        rw [Bool.or_eq_true] at hw
        simp (disch := omega) only [X_X8_endOfToken_13_s, X_X8_endOfToken_71, hL.1, mI_c, lT, lF, tT, tF, eF, pF, zT, m1F, vT, cI, true_and, and_true, true_implies, false_implies, not_false_eq_true, not_true_eq_false, forall_eq, implies_true, ei]
        refine c_isLetter hbi (fun h1 => absurd (Or.inl h1) hw) (fun h1 => br0 ?_)
        rw [mI_c (by decide), ei]
        exact c_isDigit hbi (fun h2 => absurd (Or.inr h2) hw) (fun h2 => br0 q)
      · exact brT ((lI (by omega) (by omega)).mpr (by omega)) q
  · rw [if_neg hl] at q
    rw [mI_c (by decide), eb]
    refine c_isDigit hb (fun hd => br1 ?_) (fun hd => br0 ?_)
    · rw [if_pos hd] at q
      obtain ⟨a1, a2, a3, a4⟩ := run_ok (p := dgt) (B := B) (z := z) (i := p + 1) (by omega)
      generalize run dgt B z (p + 1) = e at q a1 a2 a3 a4
      unfold X_X8_endOfToken_51
      rw [show p + 1 = p + 1 + 0 by omega]
      refine Lw.seq (fun i => (nI (p + 1 + i), mg κ ρ1)) (e - (p + 1)) (fun K i hi hK => ?_) (fun K => ?_)
      · have hk : p + 1 + i < z := by omega
        obtain ⟨ei, hbi⟩ := hB.2 _ hk
        have hw := a3 (p + 1 + i) (by omega) (by omega)
        simp (disch := omega) only [X_X8_endOfToken_51_s, hL.1, mI_c, lT, lF, tT, tF, eF, pF, zT, m1F, vT, cI, true_and, and_true, true_implies, false_implies, not_false_eq_true, not_true_eq_false, forall_eq, implies_true, ei, nI_1]
        exact c_isDigit hbi (fun _ => br1 hK) (fun h2 => absurd hw h2)
      · rw [show p + 1 + (e - (p + 1)) = e by omega]
        by_cases h : e < z
        · obtain ⟨ei, hbi⟩ := hB.2 _ h
          have hw := a4 h
          simp (disch := omega) only [X_X8_endOfToken_51_s, X_X8_endOfToken_71, hL.1, mI_c, lT, lF, tT, tF, eF, pF, zT, m1F, vT, cI, true_and, and_true, true_implies, false_implies, not_false_eq_true, not_true_eq_false, forall_eq, implies_true, ei]
          exact c_isDigit hbi (fun h2 => absurd h2 hw) (fun h2 => br0 q)
        · exact brT ((lI (by omega) (by omega)).mpr (by omega)) q
    · rw [if_neg hd] at q
      exact q
/-- what keeping the t-th token leaves as it is -/
def kpC (t a k : Nat) : Prop := ¬ (a = 3 ∧ k = 3 ∨ 4 ≤ a ∧ a ≤ 6 ∧ k = t)
theorem BtC.fr (h : BtC κ B z) (e : ∀ k, mI κ' 2 k = mI κ 2 k) : BtC κ' B z := ⟨h.1, fun k hk => by rw [e]; exact h.2 k hk⟩
theorem c_keep (hL : LyC G) (hC : StC κ) (hB : BtC κ B z) (hp : p < z) (ht : t ≤ 3000) (e3 : mI κ 3 3 = nI t) : ∃ κ', RunC0 (fun Q σ => X_X8_keep G Q 3 2 (nI p) (nI (eTk B z p)) σ) κ κ' ∧ StC κ' ∧ Eqv (kpC t) κ κ' ∧ mI κ' 3 3 = nI (t + 1) ∧ TkC κ' B z t p := by
  have hz := hB.1
  obtain ⟨eb, hb⟩ := hB.2 p hp
  obtain ⟨t1, t2⟩ := eTk_ok (B := B) hp
  have n8 : (8 : Int32) = nI 8 := rfl
  have n6 : (6 : Int32) = nI 6 := rfl
  have kin : ∀ a, 4 ≤ a → a ≤ 6 → ¬ kpC t a t := fun a h1 h2 h => h (Or.inr ⟨h1, h2, rfl⟩)
  by_cases hl : ltt (B p) = true
  · have ek : tkd B z p = if eTk B z p - p ≤ 8 then 2 else 1 := by unfold tkd; rw [if_neg (by omega), if_pos hl]
    by_cases h8 : eTk B z p - p ≤ 8
    · rw [if_pos h8] at ek
      have wr : ∀ j, p ≤ j → j < eTk B z p → wrd (B j) = true := by
        unfold eTk
        rw [if_pos hl]
        obtain ⟨a1, a2, a3, a4⟩ := run_ok (p := wrd) (B := B) (z := z) (i := p + 1) (by omega)
        intro j h1 h2
        by_cases e : j = p
        · rw [e]; unfold wrd; rw [hl]; rfl
        · exact a3 j (by omega) h2
      obtain ⟨x, ex⟩ : ∃ x, x = (if lN (c8 B p (eTk B z p - p)) ∈ kwv then (3 : Int32) else 2) := ⟨_, rfl⟩
      have esr : srt B z p = x := by unfold srt; rw [ek, ex]; rfl
      refine ⟨sI (sI (sJ (sI (sI κ 5 t (nI p)) 4 t 1) 6 t (lN (c8 B p (eTk B z p - p)))) 4 t x) 3 3 (nI (t + 1)), fun ρ1 Q hQ => ?_, ((((hC.wI _ _ _).wI _ _ _).wJ _ _ _).wI _ _ _).wI _ _ _, ?_, I_is _ _ _ _, ?_⟩
      · show X_X8_keep G Q 3 2 (nI p) (nI (eTk B z p)) (mg κ ρ1)
        simp (disch := omega) only [X_X8_keep, X_X8_keep_0, mI_c, mR_c, mJ_c, sI_c, sJ_c, sR_c, hL.1, hL.2.1, hL.2.2, hC.1, hC.2.1, hC.2.2.1, lT, lF, tT, tF, eF, pF, zT, m1F, vT, cI, true_and, and_true, true_implies, false_implies, not_false_eq_true, not_true_eq_false, forall_eq, implies_true, e3, I_is, I_cl, I_sl, J_is, J_cl, J_sl, R_is, R_cl, R_sl, mI_sJ, mI_sR, mJ_sI, mJ_sR, mR_sI, mR_sJ, eb]
        refine c_isLetter hb (fun _ => br1 ?_) (fun h => absurd hl h)
        simp (disch := omega) only [X_X8_keepWord, X_X8_keepWord_0, X_X8_keepWord_25, n8, mI_c, mR_c, sI_c, hL.1, hC.1, lT, lF, tT, tF, eF, pF, zT, m1F, vT, cI, true_and, and_true, true_implies, false_implies, not_false_eq_true, not_true_eq_false, forall_eq, implies_true, e3, I_is, I_cl, I_sl, J_is, J_cl, J_sl, R_is, R_cl, R_sl, mI_sJ, mI_sR, mJ_sI, mJ_sR, mR_sI, mR_sJ, pk_sub]
        have s0 : ((0 : Int64), nI p, mg (sI (sI κ 5 t (nI p)) 4 t 1) ρ1) = (fun i => (lN (c8 B p i), nI (p + i), mg (sI (sI κ 5 t (nI p)) 4 t 1) ρ1)) 0 := rfl
        rw [s0]
        refine Lw.seq (fun i => (lN (c8 B p i), nI (p + i), mg (sI (sI κ 5 t (nI p)) 4 t 1) ρ1)) (eTk B z p - p) (fun K i hi hK => ?_) (fun K => ?_)
        · have hk : p + i < z := by omega
          obtain ⟨ei, hbi⟩ := hB.2 _ hk
          have lo := ltt_lo _ hbi (wr (p + i) (by omega) (by omega))
          have h55 : c8 B p i < 2 ^ 55 := c8_55 (fun j hj => ltt_lo _ (hB.2 _ (by omega)).2 (wr _ (by omega) (by omega))) (by omega)
          simp (disch := omega) only [X_X8_keepWord_25_s, mI_c, hL.1, lT, lF, tT, tF, eF, pF, zT, m1F, vT, cI, true_and, and_true, true_implies, false_implies, not_false_eq_true, not_true_eq_false, forall_eq, implies_true, I_cl, ei, bb_lo _ lo, nI_l, l_or8, nI_1]
          exact hK
        · have e : p + (eTk B z p - p) = eTk B z p := by omega
          show X_X8_keepWord_25_s G _ 3 2 (nI (eTk B z p)) K (lN (c8 B p (eTk B z p - p)), nI (p + (eTk B z p - p)), _)
          rw [e]
          simp (disch := omega) only [X_X8_keepWord_25_s, mI_c, mR_c, sJ_c, hL.1, hC.1, lT, lF, tT, tF, eF, pF, zT, m1F, vT, cI, true_and, and_true, true_implies, false_implies, not_false_eq_true, not_true_eq_false, forall_eq, implies_true, e3, I_is, I_cl, I_sl, J_is, J_cl, J_sl, R_is, R_cl, R_sl, mI_sJ, mI_sR, mJ_sI, mJ_sR, mR_sI, mR_sJ]
          refine c_isKeyword (fun h => br1 ?_) (fun h => br0 ?_)
          · rw [if_pos h] at ex
            subst ex
            simp (disch := omega) only [X_X8_keepWord_82, X_X8_keep_91, mI_c, mR_c, sI_c, hL.1, hC.1, lT, lF, tT, tF, eF, pF, zT, m1F, vT, cI, true_and, and_true, true_implies, false_implies, not_false_eq_true, not_true_eq_false, forall_eq, implies_true, e3, I_is, I_cl, I_sl, J_is, J_cl, J_sl, R_is, R_cl, R_sl, mI_sJ, mI_sR, mJ_sI, mJ_sR, mR_sI, mR_sJ, nI_1]
            exact hQ
          · rw [if_neg h] at ex
            subst ex
            simp (disch := omega) only [X_X8_keepWord_82, X_X8_keep_91, mI_c, mR_c, sI_c, hL.1, hC.1, lT, lF, tT, tF, eF, pF, zT, m1F, vT, cI, true_and, and_true, true_implies, false_implies, not_false_eq_true, not_true_eq_false, forall_eq, implies_true, e3, I_is, I_cl, I_sl, J_is, J_cl, J_sl, R_is, R_cl, R_sl, mI_sJ, mI_sR, mJ_sI, mJ_sR, mR_sI, mR_sJ, nI_1]
            exact hQ
      · refine ((((Eqv.wI ?_ _).sI ?_ _).tr (Eqv.wJ ?_ _)).sI ?_ _).sI ?_ _
        all_goals first | exact kin _ (by decide) (by decide) | exact fun h => h (Or.inl ⟨rfl, rfl⟩)
      · refine ⟨?_, ?_, fun _ => ?_, fun h => by omega, fun h => by omega⟩
        · simp (disch := omega) only [I_cl, I_is, mI_sJ]
        · rw [I_cl (by decide), I_is, esr]
        · show mJ (sJ _ 6 t _) 6 t = _
          exact J_is _ _ _ _
    · rw [if_neg h8] at ek
      have esr : srt B z p = 1 := by unfold srt; rw [ek]; rfl
      refine ⟨sI (sI (sI κ 5 t (nI p)) 4 t 1) 3 3 (nI (t + 1)), fun ρ1 Q hQ => ?_, ((hC.wI _ _ _).wI _ _ _).wI _ _ _, ?_, I_is _ _ _ _, ?_⟩
      · show X_X8_keep G Q 3 2 (nI p) (nI (eTk B z p)) (mg κ ρ1)
        simp (disch := omega) only [X_X8_keep, X_X8_keep_0, mI_c, mR_c, mJ_c, sI_c, sJ_c, sR_c, hL.1, hL.2.1, hL.2.2, hC.1, hC.2.1, hC.2.2.1, lT, lF, tT, tF, eF, pF, zT, m1F, vT, cI, true_and, and_true, true_implies, false_implies, not_false_eq_true, not_true_eq_false, forall_eq, implies_true, e3, I_is, I_cl, I_sl, J_is, J_cl, J_sl, R_is, R_cl, R_sl, mI_sJ, mI_sR, mJ_sI, mJ_sR, mR_sI, mR_sJ, eb]
        refine c_isLetter hb (fun _ => br1 ?_) (fun h => absurd hl h)
        simp (disch := omega) only [X_X8_keepWord, X_X8_keepWord_0, X_X8_keep_91, n8, mI_c, mR_c, sI_c, hL.1, hC.1, lT, lF, tT, tF, eF, pF, zT, m1F, vT, cI, true_and, and_true, true_implies, false_implies, not_false_eq_true, not_true_eq_false, forall_eq, implies_true, e3, I_is, I_cl, I_sl, J_is, J_cl, J_sl, R_is, R_cl, R_sl, mI_sJ, mI_sR, mJ_sI, mJ_sR, mR_sI, mR_sJ, pk_sub, nI_1]
        exact hQ
      · refine ((Eqv.wI ?_ _).sI ?_ _).sI ?_ _
        all_goals first | exact kin _ (by decide) (by decide) | exact fun h => h (Or.inl ⟨rfl, rfl⟩)
      · refine ⟨?_, ?_, fun h => by omega, fun h => by omega, fun h => by omega⟩
        · simp (disch := omega) only [I_cl, I_is]
        · rw [I_cl (by decide), I_is, esr]
  · by_cases hd : dgt (B p) = true
    · have ek : tkd B z p = if eTk B z p - p ≤ 6 then 3 else 1 := by unfold tkd; rw [if_neg (by omega), if_neg hl, if_pos hd]
      by_cases h6 : eTk B z p - p ≤ 6
      · rw [if_pos h6] at ek
        have wr : ∀ j, p ≤ j → j < eTk B z p → dgt (B j) = true := by
          unfold eTk
          rw [if_neg hl, if_pos hd]
          obtain ⟨a1, a2, a3, a4⟩ := run_ok (p := dgt) (B := B) (z := z) (i := p + 1) (by omega)
          intro j h1 h2
          by_cases e : j = p
          · rw [e]; exact hd
          · exact a3 j (by omega) h2
        have esr : srt B z p = 4 := by unfold srt; rw [ek]; rfl
        refine ⟨sI (sI (sJ (sI (sI κ 5 t (nI p)) 4 t 1) 6 t (lN (cd B p (eTk B z p - p)))) 4 t 4) 3 3 (nI (t + 1)), fun ρ1 Q hQ => ?_, ((((hC.wI _ _ _).wI _ _ _).wJ _ _ _).wI _ _ _).wI _ _ _, ?_, I_is _ _ _ _, ?_⟩
        · show X_X8_keep G Q 3 2 (nI p) (nI (eTk B z p)) (mg κ ρ1)
          simp (disch := omega) only [X_X8_keep, X_X8_keep_0, mI_c, mR_c, mJ_c, sI_c, sJ_c, sR_c, hL.1, hL.2.1, hL.2.2, hC.1, hC.2.1, hC.2.2.1, lT, lF, tT, tF, eF, pF, zT, m1F, vT, cI, true_and, and_true, true_implies, false_implies, not_false_eq_true, not_true_eq_false, forall_eq, implies_true, e3, I_is, I_cl, I_sl, J_is, J_cl, J_sl, R_is, R_cl, R_sl, mI_sJ, mI_sR, mJ_sI, mJ_sR, mR_sI, mR_sJ, eb]
          refine c_isLetter hb (fun h => absurd h hl) (fun _ => br0 ?_)
          rw [mI_c (by decide), I_cl (by decide), eb]
          refine c_isDigit hb (fun _ => br1 ?_) (fun h => absurd hd h)
          simp (disch := omega) only [X_X8_keepNumber, X_X8_keepNumber_0, X_X8_keepNumber_25, n6, mI_c, mR_c, sI_c, hL.1, hC.1, lT, lF, tT, tF, eF, pF, zT, m1F, vT, cI, true_and, and_true, true_implies, false_implies, not_false_eq_true, not_true_eq_false, forall_eq, implies_true, e3, I_is, I_cl, I_sl, J_is, J_cl, J_sl, R_is, R_cl, R_sl, mI_sJ, mI_sR, mJ_sI, mJ_sR, mR_sI, mR_sJ, pk_sub]
          have s0 : ((0 : Int64), nI p, mg (sI (sI κ 5 t (nI p)) 4 t 1) ρ1) = (fun i => (lN (cd B p i), nI (p + i), mg (sI (sI κ 5 t (nI p)) 4 t 1) ρ1)) 0 := rfl
          rw [s0]
          refine Lw.seq (fun i => (lN (cd B p i), nI (p + i), mg (sI (sI κ 5 t (nI p)) 4 t 1) ρ1)) (eTk B z p - p) (fun K i hi hK => ?_) (fun K => ?_)
          · have hk : p + i < z := by omega
            obtain ⟨ei, hbi⟩ := hB.2 _ hk
            have dd : 48 ≤ B (p + i) ∧ B (p + i) ≤ 57 := of_decide_eq_true (wr (p + i) (by omega) (by omega))
            have n48 : (48 : Int32) = nI 48 := rfl
            simp (disch := omega) only [X_X8_keepNumber_25_s, n48, mI_c, hL.1, lT, lF, tT, tF, eF, pF, zT, m1F, vT, cI, true_and, and_true, true_implies, false_implies, not_false_eq_true, not_true_eq_false, forall_eq, implies_true, I_cl, ei, bb_lo _ (show B (p + i) < 128 by omega), pk_sub, nI_l, show (10 : Int64) = lN 10 from rfl, lN_mul, lN_add, nI_1]
            rw [show cd B p i * 10 + (B (p + i) - 48) = cd B p (i + 1) by show _ = 10 * cd B p i + _; omega]
            exact hK
          · have e : p + (eTk B z p - p) = eTk B z p := by omega
            show X_X8_keepNumber_25_s G _ 3 2 (nI (eTk B z p)) K (lN (cd B p (eTk B z p - p)), nI (p + (eTk B z p - p)), _)
            rw [e]
            simp (disch := omega) only [X_X8_keepNumber_25_s, X_X8_keep_91, mI_c, mR_c, sI_c, sJ_c, hL.1, hC.1, lT, lF, tT, tF, eF, pF, zT, m1F, vT, cI, true_and, and_true, true_implies, false_implies, not_false_eq_true, not_true_eq_false, forall_eq, implies_true, e3, I_is, I_cl, I_sl, J_is, J_cl, J_sl, R_is, R_cl, R_sl, mI_sJ, mI_sR, mJ_sI, mJ_sR, mR_sI, mR_sJ, nI_1]
            exact hQ
        · refine ((((Eqv.wI ?_ _).sI ?_ _).tr (Eqv.wJ ?_ _)).sI ?_ _).sI ?_ _
          all_goals first | exact kin _ (by decide) (by decide) | exact fun h => h (Or.inl ⟨rfl, rfl⟩)
        · refine ⟨?_, ?_, fun h => by omega, fun _ => ?_, fun h => by omega⟩
          · simp (disch := omega) only [I_cl, I_is, mI_sJ]
          · rw [I_cl (by decide), I_is, esr]
          · show mJ (sJ _ 6 t _) 6 t = _
            exact J_is _ _ _ _
      · rw [if_neg h6] at ek
        have esr : srt B z p = 1 := by unfold srt; rw [ek]; rfl
        refine ⟨sI (sI (sI κ 5 t (nI p)) 4 t 1) 3 3 (nI (t + 1)), fun ρ1 Q hQ => ?_, ((hC.wI _ _ _).wI _ _ _).wI _ _ _, ?_, I_is _ _ _ _, ?_⟩
        · show X_X8_keep G Q 3 2 (nI p) (nI (eTk B z p)) (mg κ ρ1)
          simp (disch := omega) only [X_X8_keep, X_X8_keep_0, mI_c, mR_c, mJ_c, sI_c, sJ_c, sR_c, hL.1, hL.2.1, hL.2.2, hC.1, hC.2.1, hC.2.2.1, lT, lF, tT, tF, eF, pF, zT, m1F, vT, cI, true_and, and_true, true_implies, false_implies, not_false_eq_true, not_true_eq_false, forall_eq, implies_true, e3, I_is, I_cl, I_sl, J_is, J_cl, J_sl, R_is, R_cl, R_sl, mI_sJ, mI_sR, mJ_sI, mJ_sR, mR_sI, mR_sJ, eb]
          refine c_isLetter hb (fun h => absurd h hl) (fun _ => br0 ?_)
          rw [mI_c (by decide), I_cl (by decide), eb]
          refine c_isDigit hb (fun _ => br1 ?_) (fun h => absurd hd h)
          simp (disch := omega) only [X_X8_keepNumber, X_X8_keepNumber_0, X_X8_keep_91, n6, mI_c, mR_c, sI_c, hL.1, hC.1, lT, lF, tT, tF, eF, pF, zT, m1F, vT, cI, true_and, and_true, true_implies, false_implies, not_false_eq_true, not_true_eq_false, forall_eq, implies_true, e3, I_is, I_cl, I_sl, J_is, J_cl, J_sl, R_is, R_cl, R_sl, mI_sJ, mI_sR, mJ_sI, mJ_sR, mR_sI, mR_sJ, pk_sub, nI_1]
          exact hQ
        · refine ((Eqv.wI ?_ _).sI ?_ _).sI ?_ _
          all_goals first | exact kin _ (by decide) (by decide) | exact fun h => h (Or.inl ⟨rfl, rfl⟩)
        · refine ⟨?_, ?_, fun h => by omega, fun h => by omega, fun h => by omega⟩
          · simp (disch := omega) only [I_cl, I_is]
          · rw [I_cl (by decide), I_is, esr]
    · have ek : tkd B z p = if sgn (B p) = true then 4 else 1 := by unfold tkd; rw [if_neg (by omega), if_neg hl, if_neg hd]
      obtain ⟨sg1, sg2⟩ := bb_sgn (B p) hb
      have head : ∀ ρ1 (Q : Mem → Prop), ((sgIx ((((bb (B p)) &&& (255 : Int32)).toUInt32 % 65536).toInt32) < 0 → Q (mg (sI (sI (sJ (sI κ 5 t (nI p)) 6 t (bb (B p)).toInt64) 4 t 1) 3 3 (nI (t + 1))) ρ1)) ∧ (¬ sgIx ((((bb (B p)) &&& (255 : Int32)).toUInt32 % 65536).toInt32) < 0 → Q (mg (sI (sI (sJ (sI κ 5 t (nI p)) 6 t (bb (B p)).toInt64) 4 t 5) 3 3 (nI (t + 1))) ρ1))) → X_X8_keep G Q 3 2 (nI p) (nI (eTk B z p)) (mg κ ρ1) := fun ρ1 Q h => by
        simp (disch := omega) only [X_X8_keep, X_X8_keep_0, mI_c, mR_c, mJ_c, sI_c, sJ_c, sR_c, hL.1, hL.2.1, hL.2.2, hC.1, hC.2.1, hC.2.2.1, lT, lF, tT, tF, eF, pF, zT, m1F, vT, cI, true_and, and_true, true_implies, false_implies, not_false_eq_true, not_true_eq_false, forall_eq, implies_true, e3, I_is, I_cl, I_sl, J_is, J_cl, J_sl, R_is, R_cl, R_sl, mI_sJ, mI_sR, mJ_sI, mJ_sR, mR_sI, mR_sJ, eb]
        refine c_isLetter hb (fun h => absurd h hl) (fun _ => br0 ?_)
        rw [mI_c (by decide), I_cl (by decide), eb]
        refine c_isDigit hb (fun h => absurd h hd) (fun _ => br0 ?_)
        simp (disch := omega) only [X_X8_keep_90, X_X8_keep_91, mI_c, mR_c, sI_c, sJ_c, hL.1, hC.1, lT, lF, tT, tF, eF, pF, zT, m1F, vT, cI, true_and, and_true, true_implies, false_implies, not_false_eq_true, not_true_eq_false, forall_eq, implies_true, e3, I_is, I_cl, I_sl, J_is, J_cl, J_sl, R_is, R_cl, R_sl, mI_sJ, mI_sR, mJ_sI, mJ_sR, mR_sI, mR_sJ, eb, nI_1]
        exact ⟨sg1, h⟩
      by_cases hs : sgn (B p) = true
      · rw [if_pos hs] at ek
        have lo := sgn_lo _ hb hs
        have esr : srt B z p = 5 := by unfold srt; rw [ek]; rfl
        refine ⟨sI (sI (sJ (sI κ 5 t (nI p)) 6 t (lN (B p))) 4 t 5) 3 3 (nI (t + 1)), fun ρ1 Q hQ => head ρ1 Q ⟨fun h => ?_, fun _ => ?_⟩, (((hC.wI _ _ _).wJ _ _ _).wI _ _ _).wI _ _ _, ?_, I_is _ _ _ _, ?_⟩
        · have := sg2.mp h; rw [hs] at this; cases this
        · rw [bb_lo _ lo, nI_l (by omega)]; exact hQ
        · refine (((Eqv.wI ?_ _).tr (Eqv.wJ ?_ _)).sI ?_ _).sI ?_ _
          all_goals first | exact kin _ (by decide) (by decide) | exact fun h => h (Or.inl ⟨rfl, rfl⟩)
        · refine ⟨?_, ?_, fun h => by omega, fun h => by omega, fun _ => ?_⟩
          · simp (disch := omega) only [I_cl, I_is, mI_sJ]
          · rw [I_cl (by decide), I_is, esr]
          · show mJ (sJ _ 6 t _) 6 t = _
            exact J_is _ _ _ _
      · rw [if_neg hs] at ek
        have esr : srt B z p = 1 := by unfold srt; rw [ek]; rfl
        refine ⟨sI (sI (sJ (sI κ 5 t (nI p)) 6 t (bb (B p)).toInt64) 4 t 1) 3 3 (nI (t + 1)), fun ρ1 Q hQ => head ρ1 Q ⟨fun _ => hQ, fun h => ?_⟩, (((hC.wI _ _ _).wJ _ _ _).wI _ _ _).wI _ _ _, ?_, I_is _ _ _ _, ?_⟩
        · refine absurd (sg2.mpr ?_) h
          cases e : sgn (B p)
          · rfl
          · exact absurd e hs
        · refine (((Eqv.wI ?_ _).tr (Eqv.wJ ?_ _)).sI ?_ _).sI ?_ _
          all_goals first | exact kin _ (by decide) (by decide) | exact fun h => h (Or.inl ⟨rfl, rfl⟩)
        · refine ⟨?_, ?_, fun h => by omega, fun h => by omega, fun h => by omega⟩
          · simp (disch := omega) only [I_cl, I_is, mI_sJ]
          · rw [I_cl (by decide), I_is, esr]
end SCAN
