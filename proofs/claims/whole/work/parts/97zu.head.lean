/-! a further class, side by side -/
def FH (G : Lay) (c : Nat) (r : Int32) (Q : Int32 → Mem → Prop) (σ : Mem) : Prop := (r = 0 → Q 0 σ) ∧ (r = 1 → X_X12_readClass_292 G Q 1282 (nI (13 + c)) σ)
def Jh (G : Lay) (κ0 ρ0 : Mem) (sd c : Nat) (XC XM : (Int32 → Mem → Prop) → Mem → Prop) (P : Mem → Mem → Prop) (κ ρ : Mem) : Prop := ∃ r κ' ρ', RunC XC κ r κ' ∧ (∀ κ1 (Q : Int32 → Mem → Prop), FH G c r Q (mg κ1 ρ') → XM Q (mg κ1 ρ)) ∧ ((r = 0 ∧ Fl κ0 ρ0 sd κ' ρ') ∨ (r = 1 ∧ P κ' ρ'))
def cfC (sd n a k : Nat) : Prop := ¬ (a = sd ∧ k = 0 ∨ a = sd + 4 + 5 * n ∧ k ≠ 5 ∨ a = sd + 5 + 5 * n ∨ a = 7 ∧ k = 2)
def inhM (n p t : Nat) (ρ ρ' : Mem) : Prop := ∀ m, m < t → mJ ρ' 1289 (16 * (13 + n) + m) = mJ ρ 1289 (16 * (13 + p) + m) ∧ mI ρ' 1290 (16 * (13 + n) + m) = mI ρ 1290 (16 * (13 + p) + m) ∧ mI ρ' 1292 (16 * (13 + n) + m) = mI ρ 1292 (16 * (13 + p) + m) ∧ mI ρ' 1293 (16 * (13 + n) + m) = mI ρ 1293 (16 * (13 + p) + m) ∧ mI ρ' 1294 (16 * (13 + n) + m) = mI ρ 1294 (16 * (13 + p) + m) ∧ mI ρ' 1296 (16 * (13 + n) + m) = mI ρ 1296 (16 * (13 + p) + m)
def PHd (n : Nat) (mc : Nat → Nat) (w : Int64) (ρ : Mem) (pa wy : Int32) : Prop := WdR w (mJ ρ 1284 (13 + n)) ∧ mI ρ 1285 (13 + n) = pa ∧ mI ρ 1288 (13 + n) = 0 ∧ ((pa = -1 ∧ mI ρ 1286 (13 + n) = wy ∧ (wy = 0 ∨ wy = 1 ∨ wy = 2) ∧ mI ρ 1287 (13 + n) = 0) ∨ ∃ p, p < n ∧ pa = nI p ∧ mI ρ 1286 (13 + n) = mI ρ 1286 (13 + p) ∧ mI ρ 1287 (13 + n) = nI (mc p) ∧ inhM n p (mc p) ρ ρ)
section JH
variable {G : Lay} {κ0 ρ0 κ κ2 ρ ρ2 : Mem} {sd c : Nat} {XC XC2 XM XM2 : (Int32 → Mem → Prop) → Mem → Prop} {P : Mem → Mem → Prop}
theorem Jh.stp (h1 : ∀ ρ1 (Q : Int32 → Mem → Prop), XC2 Q (mg κ2 ρ1) → XC Q (mg κ ρ1)) (h2 : ∀ κ1 (Q : Int32 → Mem → Prop), XM2 Q (mg κ1 ρ2) → XM Q (mg κ1 ρ)) (h : Jh G κ0 ρ0 sd c XC2 XM2 P κ2 ρ2) : Jh G κ0 ρ0 sd c XC XM P κ ρ := by
  obtain ⟨r, κ', ρ', a, b, d⟩ := h
  exact ⟨r, κ', ρ', fun ρ1 Q hQ => h1 ρ1 Q (a ρ1 Q hQ), fun κ1 Q hQ => h2 κ1 Q (b κ1 Q hQ), d⟩
theorem Jh.fail {κ' ρ' : Mem} (h1 : ∀ ρ1 (Q : Int32 → Mem → Prop), Q 0 (mg κ' ρ1) → XC Q (mg κ ρ1)) (h2 : ∀ κ1 (Q : Int32 → Mem → Prop), Q 0 (mg κ1 ρ') → XM Q (mg κ1 ρ)) (h : Fl κ0 ρ0 sd κ' ρ') : Jh G κ0 ρ0 sd c XC XM P κ ρ := ⟨0, κ', ρ', h1, fun κ1 Q hQ => h2 κ1 Q (hQ.1 rfl), Or.inl ⟨rfl, h⟩⟩
theorem Jh.good {κ' ρ' : Mem} (h1 : ∀ ρ1 (Q : Int32 → Mem → Prop), Q 1 (mg κ' ρ1) → XC Q (mg κ ρ1)) (h2 : ∀ κ1 (Q : Int32 → Mem → Prop), X_X12_readClass_292 G Q 1282 (nI (13 + c)) (mg κ1 ρ') → XM Q (mg κ1 ρ)) (h : P κ' ρ') : Jh G κ0 ρ0 sd c XC XM P κ ρ := ⟨1, κ', ρ', h1, fun κ1 Q hQ => h2 κ1 Q (hQ.2 rfl), Or.inr ⟨rfl, h⟩⟩
end JH
section ADDC
variable {G : Lay} {κ0 ρ0 κ κ' ρ ρ' ρ2 : Mem} {sd z T i c n nw p t : Nat} {B : Nat → Nat} {mc rt hc ow tb : Nat → Nat} {w : Int64} {pa wy : Int32}
def cpMb (ρ : Mem) (s t : Nat) : Mem := sI (sI (sI (sI (sI (sI (sI (sJ ρ 1289 t (mJ ρ 1289 s)) 1290 t (mI ρ 1290 s)) 1291 t (mI ρ 1291 s)) 1292 t (mI ρ 1292 s)) 1293 t (mI ρ 1293 s)) 1294 t (mI ρ 1294 s)) 1295 t (mI ρ 1295 s)) 1296 t (mI ρ 1296 s)
theorem m_copyMember (hM : LyM G) (hm : StM ρ) {a b m : Nat} (ha : a < 26) (hb : b < 26) (h16 : m < 16) {κ1 : Mem} {Q : Mem → Prop} (q : Q (mg κ1 (cpMb ρ (16 * a + m) (16 * b + m)))) : X_X12_copyMember G Q 1282 (nI a) (nI b) (nI m) (mg κ1 ρ) := by
  have n16 : (16 : Int32) = nI 16 := rfl
  simp (disch := omega) only [X_X12_copyMember, X_X12_copyMember_0, mI_m, mR_m, mJ_m, sI_m, sJ_m, hM.1, hM.2, hm.1, hm.2, lT, lF, tT, tF, eF, pF, zT, m1F, vT, cI, true_and, and_true, true_implies, false_implies, not_false_eq_true, not_true_eq_false, forall_eq, implies_true, I_is, I_cl, I_sl, J_is, J_cl, J_sl, R_is, R_cl, R_sl, mI_sJ, mI_sR, mJ_sI, mJ_sR, mR_sI, mR_sJ, n16, pk_mul, nI_add]
  exact q
theorem cpMb_Eqv {ρ : Mem} {s t : Nat} : Eqv (fun a k => ¬ (1289 ≤ a ∧ a ≤ 1296 ∧ k = t)) ρ (cpMb ρ s t) := by
  refine ((((((Eqv.sI (Eqv.wJ ?_ _) ?_ _).sI ?_ _).sI ?_ _).sI ?_ _).sI ?_ _).sI ?_ _).sI ?_ _
  all_goals exact fun h => h (by omega)
theorem m_inherit (hM : LyM G) (hm : StM ρ) (hn : n < 12) (hp : p < n) (e : mI ρ 1287 (13 + n) = nI t) (ht : t ≤ 16) : ∃ ρ', StM ρ' ∧ Eqv (fun a k => ¬ (1289 ≤ a ∧ a ≤ 1296 ∧ 16 * (13 + n) ≤ k ∧ k < 16 * (13 + n) + 16)) ρ ρ' ∧ inhM n p t ρ ρ' ∧ ∀ κ1 (Q : Int32 → Mem → Prop), X_X12_advance G (fun s4 => X_X12_readClass_271 G Q 1282 (nI (13 + n)) s4) 1282 (mg κ1 ρ') → X_X12_readClass_188 G Q 1282 (nI (13 + n)) (nI p) 0 (mg κ1 ρ) := by
  have n13 : (13 : Int32) = nI 13 := rfl
  obtain ⟨⟨b1, ρa⟩, ⟨hb, hma, fra, fa⟩, run⟩ := Lw.run (ι := Mem × (Int32 → Mem → Prop)) (fun z => X_X12_readClass_188_s G z.2 1282 (nI (13 + n)) (nI p)) (fun (b : Nat × Mem) z => (nI b.1, mg z.1 b.2)) t (fun i b => b.1 = i ∧ StM b.2 ∧ Eqv (fun a k => ¬ (1289 ≤ a ∧ a ≤ 1296 ∧ 16 * (13 + n) ≤ k ∧ k < 16 * (13 + n) + 16)) ρ b.2 ∧ inhM n p i ρ b.2) (by
    rintro i ⟨b1, ρb⟩ hi ⟨hb, hm, fr, ff⟩
    have hb : b1 = i := hb
    subst hb
    have hm : StM ρb := hm
    have fr : Eqv _ ρ ρb := fr
    have ff : inhM n p b1 ρ ρb := ff
    have e' : mI ρb 1287 (13 + n) = nI t := by rw [fr.I (by omega)]; exact e
    have sv : ∀ a, mI ρb a (16 * (13 + p) + b1) = mI ρ a (16 * (13 + p) + b1) := fun a => fr.I (by omega)
    have sw : ∀ a, mJ ρb a (16 * (13 + p) + b1) = mJ ρ a (16 * (13 + p) + b1) := fun a => fr.J (by omega)
    refine ⟨(b1 + 1, cpMb ρb (16 * (13 + p) + b1) (16 * (13 + n) + b1)), ⟨rfl, (((((((hm.wJ _ _ _).wI _ _ _).wI _ _ _).wI _ _ _).wI _ _ _).wI _ _ _).wI _ _ _).wI _ _ _, fr.tr (cpMb_Eqv.mo fun a k hh => by omega), fun m hm2 => ?_⟩, fun z K hK => ?_⟩
    · show mJ (cpMb ρb _ _) _ _ = _ ∧ mI (cpMb ρb _ _) _ _ = _ ∧ mI (cpMb ρb _ _) _ _ = _ ∧ mI (cpMb ρb _ _) _ _ = _ ∧ mI (cpMb ρb _ _) _ _ = _ ∧ mI (cpMb ρb _ _) _ _ = _
      by_cases e1 : m = b1
      · subst e1
        unfold cpMb
        simp (disch := omega) only [I_is, I_cl, I_sl, J_is, J_cl, J_sl, R_is, R_cl, R_sl, mI_sJ, mI_sR, mJ_sI, mJ_sR, mR_sI, mR_sJ, sv, sw, and_self]
      · have g := fun a => (cpMb_Eqv (ρ := ρb) (s := 16 * (13 + p) + b1) (t := 16 * (13 + n) + b1)).I (a := a) (k := 16 * (13 + n) + m) (by omega)
        have gJ := fun a => (cpMb_Eqv (ρ := ρb) (s := 16 * (13 + p) + b1) (t := 16 * (13 + n) + b1)).J (a := a) (k := 16 * (13 + n) + m) (by omega)
        rw [gJ, g, g, g, g, g]
        exact ff m (by omega)
    · show X_X12_readClass_188_s G z.2 1282 (nI (13 + n)) (nI p) K (nI b1, mg z.1 ρb)
      simp (disch := omega) only [X_X12_readClass_188_s, mI_m, mR_m, mJ_m, sI_m, sJ_m, hM.1, hM.2, hm.1, hm.2, lT, lF, tT, tF, eF, pF, zT, m1F, vT, cI, true_and, and_true, true_implies, false_implies, not_false_eq_true, not_true_eq_false, forall_eq, implies_true, e', n13, nI_add, nI_1]
      exact m_copyMember hM hm (by omega) (by omega) (by omega) hK) 0 (Nat.zero_le _) (0, ρ) ⟨rfl, hm, Eqv.rf, fun r h => by omega⟩
  have hb : b1 = t := hb
  subst hb
  have hma : StM ρa := hma
  have fra : Eqv _ ρ ρa := fra
  have fa : inhM n p b1 ρ ρa := fa
  refine ⟨ρa, hma, fra, fa, fun κ1 Q hQ => ?_⟩
  have e' : mI ρa 1287 (13 + n) = nI b1 := by rw [fra.I (by omega)]; exact e
  refine run (κ1, Q) (fun K => ?_)
  show X_X12_readClass_188_s G Q 1282 (nI (13 + n)) (nI p) K (nI b1, mg κ1 ρa)
  have hm := hma
  simp (disch := omega) only [X_X12_readClass_188_s, mI_m, mR_m, mJ_m, sI_m, sJ_m, hM.1, hM.2, hm.1, hm.2, lT, lF, tT, tF, eF, pF, zT, m1F, vT, cI, true_and, and_true, true_implies, false_implies, not_false_eq_true, not_true_eq_false, forall_eq, implies_true, e']
  exact hQ
def acC (sd n : Nat) (w : Int64) (pa wy : Int32) (κ κ' : Mem) : Prop := StC κ' ∧ Eqv (cfC sd n) κ κ' ∧ (mJ κ' (sd + 4 + 5 * n) 0 = w ∧ mI κ' (sd + 4 + 5 * n) 1 = pa ∧ mI κ' (sd + 4 + 5 * n) 6 = 0 ∧ mI κ' sd 0 = nI (n + 1)) ∧ (pa = -1 → mI κ' (sd + 4 + 5 * n) 2 = nI n ∧ mI κ' (sd + 4 + 5 * n) 3 = wy ∧ mI κ' (sd + 4 + 5 * n) 4 = 0) ∧ ∀ p t, p < n → pa = nI p → mI κ (sd + 4 + 5 * p) 4 = nI t → t ≤ 16 → mI κ' (sd + 4 + 5 * n) 2 = mI κ (sd + 4 + 5 * p) 2 ∧ mI κ' (sd + 4 + 5 * n) 3 = mI κ (sd + 4 + 5 * p) 3 ∧ mI κ' (sd + 4 + 5 * n) 4 = nI t ∧ ∀ m, m < t → mR κ' (sd + 5 + 5 * n) m = mR κ (sd + 5 + 5 * p) m
theorem c_kdAt1 {ρ1 : Mem} (hG : Ly G) (hC : StC κ) (hs : sd = 14 ∨ sd = 275) (h0 : mI κ sd 0 = nI n) (h12 : n ≤ 12) {Q : Nat → Mem → Prop} (h : c < n) (k : Q (sd + 4 + 5 * c) (mg κ ρ1)) : X_X6_kindAt G Q sd (nI c) (mg κ ρ1) := by
  have hT := hG.s hs
  have hK := hC.ss hs
  simp (disch := omega) only [X_X6_kindAt_22, X_X6_kindAt_12, X_X6_kindAt_0, X_X6_kindAt, lT, lF, tT, tF, eF, pF, zT, m1F, vT, cI, true_and, and_true, true_implies, false_implies, not_false_eq_true, not_true_eq_false, forall_eq, implies_true, mI_c, mR_c, h0, hT.1, hT.2.1, hK.1, hK.2.1]
  exact k
theorem c_kdAt0 {ρ1 : Mem} {Q : Nat → Mem → Prop} (k : Q 0 (mg κ ρ1)) : X_X6_kindAt G Q sd (-1) (mg κ ρ1) := by
  simp (disch := omega) only [X_X6_kindAt_22, X_X6_kindAt_12, X_X6_kindAt_0, X_X6_kindAt, lT, lF, tT, tF, eF, pF, zT, m1F, vT, cI, true_and, and_true, true_implies, false_implies, not_false_eq_true, not_true_eq_false, forall_eq, implies_true, m1_neg]
  exact k
theorem c_addClass0 (hG : Ly G) (hC : StC κ) (hs : sd = 14 ∨ sd = 275) (hn : n < 12) (h0 : mI κ sd 0 = nI n) : ∃ κ', (∀ ρ1 (Q : Nat → Mem → Prop), Q (sd + 4 + 5 * n) (mg κ' ρ1) → X_X6_addClass G Q sd w (-1) wy (mg κ ρ1)) ∧ acC sd n w (-1) wy κ κ' := by
  have hL := hG.1
  have hT := hG.s hs
  have hK := hC.ss hs
  have g2 := (hT.2.1 n hn).1
  refine ⟨sI (sI (sI (sI (sI (sI (sJ κ (sd + 4 + 5 * n) 0 w) (sd + 4 + 5 * n) 1 (-1)) (sd + 4 + 5 * n) 2 (nI n)) (sd + 4 + 5 * n) 3 wy) (sd + 4 + 5 * n) 4 0) (sd + 4 + 5 * n) 6 0) sd 0 (nI (n + 1)), fun ρ1 Q hQ => ?_, ?_, ?_, ⟨?_, ?_, ?_, ?_⟩, fun _ => ⟨?_, ?_, ?_⟩, fun p t h1 h2 => ?_⟩
  · simp (disch := omega) only [X_X6_addClass, X_X6_addClass_0, X_X1_begin, X_X1_begin_0, mI_c, mR_c, mJ_c, sI_c, sJ_c, sR_c, hL.1, hL.2.1, hL.2.2, hC.1, hC.2.1, hC.2.2.1, hT.1, hT.2.1, hK.1, hK.2.1, h0, lT, lF, tT, tF, eF, pF, zT, m1F, vT, cI, true_and, and_true, true_implies, false_implies, not_false_eq_true, not_true_eq_false, forall_eq, implies_true, I_is, I_cl, I_sl, J_is, J_cl, J_sl, R_is, R_cl, R_sl, mI_sJ, mI_sR, mJ_sI, mJ_sR, mR_sI, mR_sJ]
    refine c_kdAt0 (brT rfl ?_)
    simp (disch := omega) only [X_X6_addClass_106, mI_c, mR_c, mJ_c, sI_c, sJ_c, sR_c, hL.1, hL.2.1, hL.2.2, hC.1, hC.2.1, hC.2.2.1, hT.1, h0, nI_1, lT, lF, tT, tF, eF, pF, zT, m1F, vT, cI, true_and, and_true, true_implies, false_implies, not_false_eq_true, not_true_eq_false, forall_eq, implies_true, I_is, I_cl, I_sl, J_is, J_cl, J_sl, R_is, R_cl, R_sl, mI_sJ, mI_sR, mJ_sI, mJ_sR, mR_sI, mR_sJ]
    exact hQ
  · exact ((((((hC.wJ _ _ _).wI _ _ _).wI _ _ _).wI _ _ _).wI _ _ _).wI _ _ _).wI _ _ _
  · refine ((((((Eqv.wJ ?_ _).sI ?_ _).sI ?_ _).sI ?_ _).sI ?_ _).sI ?_ _).sI ?_ _
    all_goals exact fun h => h (by omega)
  · simp (disch := omega) only [I_is, I_cl, I_sl, J_is, J_cl, J_sl, R_is, R_cl, R_sl, mI_sJ, mI_sR, mJ_sI, mJ_sR, mR_sI, mR_sJ]
  · simp (disch := omega) only [I_is, I_cl, I_sl, J_is, J_cl, J_sl, R_is, R_cl, R_sl, mI_sJ, mI_sR, mJ_sI, mJ_sR, mR_sI, mR_sJ]
  · simp (disch := omega) only [I_is, I_cl, I_sl, J_is, J_cl, J_sl, R_is, R_cl, R_sl, mI_sJ, mI_sR, mJ_sI, mJ_sR, mR_sI, mR_sJ]
  · simp (disch := omega) only [I_is, I_cl, I_sl, J_is, J_cl, J_sl, R_is, R_cl, R_sl, mI_sJ, mI_sR, mJ_sI, mJ_sR, mR_sI, mR_sJ]
  · simp (disch := omega) only [I_is, I_cl, I_sl, J_is, J_cl, J_sl, R_is, R_cl, R_sl, mI_sJ, mI_sR, mJ_sI, mJ_sR, mR_sI, mR_sJ]
  · simp (disch := omega) only [I_is, I_cl, I_sl, J_is, J_cl, J_sl, R_is, R_cl, R_sl, mI_sJ, mI_sR, mJ_sI, mJ_sR, mR_sI, mR_sJ]
  · simp (disch := omega) only [I_is, I_cl, I_sl, J_is, J_cl, J_sl, R_is, R_cl, R_sl, mI_sJ, mI_sR, mJ_sI, mJ_sR, mR_sI, mR_sJ]
  · exact absurd h2.symm (mI1 (by omega))
theorem c_addClass1 (hG : Ly G) (hC : StC κ) (hs : sd = 14 ∨ sd = 275) (hn : n < 12) (h0 : mI κ sd 0 = nI n) (hp : p < n) (ht : t ≤ 16) (h4 : mI κ (sd + 4 + 5 * p) 4 = nI t) (hr : ∀ j, j < t → sd + 64 ≤ mR κ (sd + 5 + 5 * p) j ∧ mR κ (sd + 5 + 5 * p) j < sd + 256) : ∃ κ', (∀ ρ1 (Q : Nat → Mem → Prop), Q (sd + 4 + 5 * n) (mg κ' ρ1) → X_X6_addClass G Q sd w (nI p) wy (mg κ ρ1)) ∧ acC sd n w (nI p) wy κ κ' := by
  have hL := hG.1
  have hT := hG.s hs
  have hK := hC.ss hs
  have g2 := (hT.2.1 n hn).1
  have g2p := (hT.2.1 p (by omega)).1
  have g5 := (hT.2.1 n hn).2.1
  have g5l := (hT.2.1 n hn).2.2.1
  have g5p := (hT.2.1 p (by omega)).2.1
  have g5pl := (hT.2.1 p (by omega)).2.2.1
  have g3 : ∀ j, j < t → gT G (mR κ (sd + 5 + 5 * p) j) = 3 := fun j hj => by
    have := hr j hj
    have h := hT.2.2 (mR κ (sd + 5 + 5 * p) j - (sd + 64)) (by omega)
    rw [show sd + 64 + (mR κ (sd + 5 + 5 * p) j - (sd + 64)) = mR κ (sd + 5 + 5 * p) j by omega] at h
    exact h
  obtain ⟨κ1, e1⟩ : ∃ κ1, κ1 = sI (sI (sI (sI (sI (sI (sI (sI (sI (sJ κ (sd + 4 + 5 * n) 0 w) (sd + 4 + 5 * n) 1 (-1)) (sd + 4 + 5 * n) 2 (nI n)) (sd + 4 + 5 * n) 3 wy) (sd + 4 + 5 * n) 4 0) (sd + 4 + 5 * n) 6 0) (sd + 4 + 5 * n) 1 (nI p)) (sd + 4 + 5 * n) 2 (mI κ (sd + 4 + 5 * p) 2)) (sd + 4 + 5 * n) 3 (mI κ (sd + 4 + 5 * p) 3)) (sd + 4 + 5 * n) 4 (nI t) := ⟨_, rfl⟩
  have hC1 : StC κ1 := by subst e1; exact ((((((((((hC.wJ _ _ _).wI _ _ _).wI _ _ _).wI _ _ _).wI _ _ _).wI _ _ _).wI _ _ _).wI _ _ _).wI _ _ _).wI _ _ _)
  have q1 : Eqv (cfC sd n) κ κ1 := by
    subst e1
    refine (((((((((Eqv.wJ ?_ _).sI ?_ _).sI ?_ _).sI ?_ _).sI ?_ _).sI ?_ _).sI ?_ _).sI ?_ _).sI ?_ _).sI ?_ _
    all_goals exact fun h => h (by omega)
  obtain ⟨⟨b1, κa⟩, ⟨hb, hCa, fra, fa⟩, run⟩ := Lw.run (ι := Mem × (Nat → Mem → Prop)) (fun z => X_X6_addClass_74_s G z.2 sd (sd + 4 + 5 * n) (sd + 4 + 5 * p)) (fun (b : Nat × Mem) z => (nI b.1, mg b.2 z.1)) t (fun i b => b.1 = i ∧ StC b.2 ∧ Eqv (fun a _ => a ≠ sd + 5 + 5 * n) κ1 b.2 ∧ ∀ m, m < i → mR b.2 (sd + 5 + 5 * n) m = mR κ (sd + 5 + 5 * p) m) (by
    rintro i ⟨b1, κb⟩ hi ⟨hb, hC, fr, ff⟩
    have hb : b1 = i := hb
    subst hb
    have hC : StC κb := hC
    have hK := hC.ss hs
    have fr : Eqv _ κ1 κb := fr
    have ff : ∀ m, m < b1 → mR κb (sd + 5 + 5 * n) m = mR κ (sd + 5 + 5 * p) m := ff
    have e' : mI κb (sd + 4 + 5 * p) 4 = nI t := by rw [fr.I (by omega), q1.I (fun hg => by rcases hg with hg | hg | hg | hg <;> omega)]; exact h4
    have er : mR κb (sd + 5 + 5 * p) b1 = mR κ (sd + 5 + 5 * p) b1 := by rw [fr.R (by omega), q1.R (fun hg => by rcases hg with hg | hg | hg | hg <;> omega)]
    have g3' := g3 b1 hi
    refine ⟨(b1 + 1, sR κb (sd + 5 + 5 * n) b1 (mR κ (sd + 5 + 5 * p) b1)), ⟨rfl, hC.wS hs hn, fr.tr (Eqv.wR (fun h => h rfl) _), fun m hm => ?_⟩, fun z K hK' => ?_⟩
    · show mR (sR κb _ _ _) _ _ = _
      by_cases e1 : m = b1
      · subst e1
        rw [R_is]
      · rw [R_sl e1]
        exact ff m (by omega)
    · show X_X6_addClass_74_s G z.2 sd (sd + 4 + 5 * n) (sd + 4 + 5 * p) K (nI b1, mg κb z.1)
      simp (disch := omega) only [X_X6_addClass_74_s, mI_c, mR_c, mJ_c, sI_c, sJ_c, sR_c, hL.1, hL.2.1, hL.2.2, hC.1, hC.2.1, hC.2.2.1, hT.1, g2, g2p, g5, g5l, g5p, g5pl, hK.2.1, hK.2.2, e', er, g3', nI_1, lT, lF, tT, tF, eF, pF, zT, m1F, vT, cI, true_and, and_true, true_implies, false_implies, not_false_eq_true, not_true_eq_false, forall_eq, implies_true, I_is, I_cl, I_sl, J_is, J_cl, J_sl, R_is, R_cl, R_sl, mI_sJ, mI_sR, mJ_sI, mJ_sR, mR_sI, mR_sJ]
      exact hK') 0 (Nat.zero_le _) (0, κ1) ⟨rfl, hC1, Eqv.rf, fun r h => by omega⟩
  have hb : b1 = t := hb
  subst hb
  have hCa : StC κa := hCa
  have fra : Eqv _ κ1 κa := fra
  have fa : ∀ m, m < b1 → mR κa (sd + 5 + 5 * n) m = mR κ (sd + 5 + 5 * p) m := fa
  have e' : mI κa (sd + 4 + 5 * p) 4 = nI b1 := by rw [fra.I (by omega), q1.I (fun hg => by rcases hg with hg | hg | hg | hg <;> omega)]; exact h4
  have e0 : mI κa sd 0 = nI n := by rw [fra.I (by omega)]; subst e1; simp (disch := omega) only [I_is, I_cl, I_sl, J_is, J_cl, J_sl, R_is, R_cl, R_sl, mI_sJ, mI_sR, mJ_sI, mJ_sR, mR_sI, mR_sJ]; exact h0
  have fI : ∀ k, mI (sI κa sd 0 (nI (n + 1))) (sd + 4 + 5 * n) k = mI κ1 (sd + 4 + 5 * n) k := fun k => by rw [I_cl (by omega), fra.I (by omega)]
  refine ⟨sI κa sd 0 (nI (n + 1)), fun ρ1 Q hQ => ?_, hCa.wI _ _ _, (q1.tr (fra.mo fun a k hh => by unfold cfC at hh; omega)).sI (fun h => h (by omega)) _, ⟨?_, ?_, ?_, I_is _ _ _ _⟩, fun h => absurd h (mI1 (by omega)), fun p' t' h1 h2 h3 h5 => ?_⟩
  · simp (disch := omega) only [X_X6_addClass, X_X6_addClass_0, X_X1_begin, X_X1_begin_0, mI_c, mR_c, mJ_c, sI_c, sJ_c, sR_c, hL.1, hL.2.1, hL.2.2, hC.1, hC.2.1, hC.2.2.1, hT.1, hT.2.1, hK.1, hK.2.1, h0, lT, lF, tT, tF, eF, pF, zT, m1F, vT, cI, true_and, and_true, true_implies, false_implies, not_false_eq_true, not_true_eq_false, forall_eq, implies_true, I_is, I_cl, I_sl, J_is, J_cl, J_sl, R_is, R_cl, R_sl, mI_sJ, mI_sR, mJ_sI, mJ_sR, mR_sI, mR_sJ]
    refine c_kdAt1 hG ((((((hC.wJ _ _ _).wI _ _ _).wI _ _ _).wI _ _ _).wI _ _ _).wI _ _ _) hs (n := n) (by simp (disch := omega) only [I_is, I_cl, I_sl, J_is, J_cl, J_sl, R_is, R_cl, R_sl, mI_sJ, mI_sR, mJ_sI, mJ_sR, mR_sI, mR_sJ]; exact h0) (by omega) hp (brF (by omega) ?_)
    simp (disch := omega) only [mI_c, mR_c, mJ_c, sI_c, sJ_c, sR_c, hL.1, hL.2.1, hL.2.2, hC.1, hC.2.1, hC.2.2.1, hT.1, g2, g2p, h4, lT, lF, tT, tF, eF, pF, zT, m1F, vT, cI, true_and, and_true, true_implies, false_implies, not_false_eq_true, not_true_eq_false, forall_eq, implies_true, I_is, I_cl, I_sl, J_is, J_cl, J_sl, R_is, R_cl, R_sl, mI_sJ, mI_sR, mJ_sI, mJ_sR, mR_sI, mR_sJ]
    rw [← e1]
    refine run (ρ1, Q) (fun K => ?_)
    show X_X6_addClass_74_s G Q sd (sd + 4 + 5 * n) (sd + 4 + 5 * p) K (nI b1, mg κa ρ1)
    have hC := hCa
    simp (disch := omega) only [X_X6_addClass_74_s, X_X6_addClass_106, mI_c, mR_c, mJ_c, sI_c, sJ_c, sR_c, hL.1, hL.2.1, hL.2.2, hC.1, hC.2.1, hC.2.2.1, hT.1, g2, g2p, e', e0, nI_1, lT, lF, tT, tF, eF, pF, zT, m1F, vT, cI, true_and, and_true, true_implies, false_implies, not_false_eq_true, not_true_eq_false, forall_eq, implies_true, I_is, I_cl, I_sl, J_is, J_cl, J_sl, R_is, R_cl, R_sl, mI_sJ, mI_sR, mJ_sI, mJ_sR, mR_sI, mR_sJ]
    exact hQ
  · rw [mJ_sI, fra.J (by omega)]; subst e1; simp (disch := omega) only [I_is, I_cl, I_sl, J_is, J_cl, J_sl, R_is, R_cl, R_sl, mI_sJ, mI_sR, mJ_sI, mJ_sR, mR_sI, mR_sJ]
  · rw [fI]; subst e1; simp (disch := omega) only [I_is, I_cl, I_sl, J_is, J_cl, J_sl, R_is, R_cl, R_sl, mI_sJ, mI_sR, mJ_sI, mJ_sR, mR_sI, mR_sJ]
  · rw [fI]; subst e1; simp (disch := omega) only [I_is, I_cl, I_sl, J_is, J_cl, J_sl, R_is, R_cl, R_sl, mI_sJ, mI_sR, mJ_sI, mJ_sR, mR_sI, mR_sJ]
  · have hp' : p' < 12 := by omega
    have epp : p = p' := by
      have := congrArg Int32.toNatClampNeg h2
      rw [cI (by omega), cI (by omega)] at this
      exact this
    subst epp
    rw [h4] at h3
    have ett : b1 = t' := by
      have := congrArg Int32.toNatClampNeg h3
      rw [cI (by omega), cI (by omega)] at this
      exact this
    subst ett
    refine ⟨?_, ?_, ?_, fa⟩
    · rw [fI]; subst e1; simp (disch := omega) only [I_is, I_cl, I_sl, J_is, J_cl, J_sl, R_is, R_cl, R_sl, mI_sJ, mI_sR, mJ_sI, mJ_sR, mR_sI, mR_sJ]
    · rw [fI]; subst e1; simp (disch := omega) only [I_is, I_cl, I_sl, J_is, J_cl, J_sl, R_is, R_cl, R_sl, mI_sJ, mI_sR, mJ_sI, mJ_sR, mR_sI, mR_sJ]
    · rw [fI]; subst e1; simp (disch := omega) only [I_is, I_cl, I_sl, J_is, J_cl, J_sl, R_is, R_cl, R_sl, mI_sJ, mI_sR, mJ_sI, mJ_sR, mR_sI, mR_sJ]
theorem DB.cg {mc' rt' hc' ow' tb' : Nat → Nat} (h : DB sd n nw mc rt hc ow tb κ ρ) (e : ∀ c, c < n → mc' c = mc c ∧ rt' c = rt c ∧ hc' c = hc c ∧ ow' c = ow c) (et : ∀ c, c ≤ n → tb' c = tb c) : DB sd n nw mc' rt' hc' ow' tb' κ ρ := by
  obtain ⟨h1, ⟨h2, h3⟩, h4, h5⟩ := h
  refine ⟨fun c hcn => ?_, ⟨(et 0 (by omega)).trans h2, fun c hcn => ?_⟩, h4, h5⟩
  · obtain ⟨a1, a2, a3, a4⟩ := h1 c hcn
    obtain ⟨x1, x2, x3, x4⟩ := e c hcn
    refine ⟨?_, ?_, fun m m1 m2 => ?_, fun q hq => ?_⟩
    · unfold DCls; rw [x2]; exact a1
    · unfold DHei; rw [x2, x4]
      rcases a2 with b | ⟨p, p1, p2, p3, p4, p5, p6⟩
      · exact Or.inl b
      · obtain ⟨y1, y2, y3, y4⟩ := e p (by omega)
        refine Or.inr ⟨p, p1, p2, ?_, ?_, p5, fun m hm => ?_⟩
        · rw [y2]; exact p3
        · rw [y1]; exact p4
        · rw [y1] at hm; exact p6 m hm
    · rw [x4] at m1; rw [x1] at m2; rw [et c (by omega), x4]; exact a3 m m1 m2
    · rw [x3] at hq
      obtain ⟨b1, ⟨m, b2, b3⟩, b6⟩ := a4 q hq
      exact ⟨b1, ⟨m, by rw [x1]; exact b2, b3⟩, b6⟩
  · obtain ⟨x1, x2, x3, x4⟩ := e c hcn
    rw [x1, x3, x4, et c (by omega), et (c + 1) (by omega)]
    exact h3 c hcn
theorem DRf.addC (h : DRf sd n nw mc rt hc ow tb κ ρ) (hs : sd = 14 ∨ sd = 275) (hn : n < 12) (hP : PHd n mc w ρ pa wy) (hA : acC sd n w pa wy κ κ') : ∃ mc' rt' hc' ow' tb', DRf sd (n + 1) nw mc' rt' hc' ow' tb' κ' (sI ρ 1282 56 (nI (n + 1))) := by
  obtain ⟨hB, hN, ⟨q1, q2, q3⟩, q4, q5⟩ := h
  obtain ⟨w1, w2, w3, w4⟩ := hP
  obtain ⟨hC', fr, ⟨x1, x2, x3, x4⟩, x5, x6⟩ := hA
  have f2 : mI κ' sd 2 = nI (tb n) := (fr.I (a := sd) (k := 2) (fun hg => by rcases hg with hg | hg | hg | hg <;> omega)).trans q2
  have f4 : mI κ' sd 4 = nI nw := (fr.I (a := sd) (k := 4) (fun hg => by rcases hg with hg | hg | hg | hg <;> omega)).trans q3
  have law := hB.2.1
  have le16 := law.le n (Nat.le_refl _)
  have hB2 : DB sd n nw mc rt hc ow tb κ' (sI ρ 1282 56 (nI (n + 1))) := by
    refine hB.fr (fr.mo fun a q hh => ?_) (Eqv.wI ?_ _)
    · unfold cfC
      intro hg
      rcases hh with ⟨y, hy, hh | hh | ⟨hh | hh | hh, hh2⟩⟩ | hh | hh <;> rcases hg with hg | hg | hg | hg <;> omega
    · rintro (⟨y, hy, hh | ⟨hh1, hh2, m, hm, hh⟩ | ⟨hh1, hh2, m, hm, hh⟩⟩ | hh) <;> omega
  -- how many members, what root
  obtain ⟨m0, r0, hm0, hcl, hhe, k1, k2⟩ : ∃ m0 r0, m0 ≤ 16 ∧ (WdR (mJ κ' (sd + 4 + 5 * n) 0) (mJ ρ 1284 (13 + n)) ∧ mI κ' (sd + 4 + 5 * n) 1 = mI ρ 1285 (13 + n) ∧ mI κ' (sd + 4 + 5 * n) 2 = nI r0 ∧ mI κ' (sd + 4 + 5 * n) 3 = mI ρ 1286 (13 + n) ∧ (mI ρ 1286 (13 + n) = 0 ∨ mI ρ 1286 (13 + n) = 1 ∨ mI ρ 1286 (13 + n) = 2)) ∧ ((mI ρ 1285 (13 + n) = -1 ∧ r0 = n ∧ m0 = 0) ∨ ∃ p, p < n ∧ mI ρ 1285 (13 + n) = nI p ∧ r0 = rt p ∧ m0 = mc p ∧ mI ρ 1286 (13 + n) = mI ρ 1286 (13 + p) ∧ inhM n p (mc p) ρ ρ ∧ ∀ m, m < mc p → mR κ' (sd + 5 + 5 * n) m = mR κ' (sd + 5 + 5 * p) m) ∧ mI κ' (sd + 4 + 5 * n) 4 = nI m0 ∧ mI ρ 1287 (13 + n) = nI m0 := by
    rcases w4 with ⟨y1, y2, y3, y4⟩ | ⟨p, p1, p2, p3, p4, p5⟩
    · obtain ⟨v1, v2, v3⟩ := x5 y1
      refine ⟨0, n, by omega, ⟨by rw [x1]; exact w1, by rw [x2, w2], v1, by rw [v2, y2], by rw [y2]; exact y3⟩, Or.inl ⟨by rw [w2]; exact y1, rfl, rfl⟩, v3, y4⟩
    · obtain ⟨⟨z1, z2⟩, -⟩ := hN p p1
      have lp := law.2 p p1
      obtain ⟨v1, v2, v3, v4⟩ := x6 p (mc p) p1 p2 z1 lp.2.1
      obtain ⟨d1, d2, d3, d4, d5⟩ := (hB.1 p p1).1
      refine ⟨mc p, rt p, lp.2.1, ⟨by rw [x1]; exact w1, by rw [x2, w2], by rw [v1]; exact d3, by rw [v2, p3]; exact d4, by rw [p3]; exact d5⟩, Or.inr ⟨p, p1, by rw [w2]; exact p2, rfl, rfl, p3, p5, fun m hm => ?_⟩, v3, p4⟩
      rw [v4 m hm, fr.R (fun hg => by rcases hg with hg | hg | hg | hg <;> omega)]
  have hB3 : DB sd n nw (updN mc n m0) (updN rt n r0) (updN hc n 0) (updN ow n m0) (updN tb (n + 1) (tb n)) κ' (sI ρ 1282 56 (nI (n + 1))) := hB2.cg (fun c hcn => ⟨updN_no (by omega), updN_no (by omega), updN_no (by omega), updN_no (by omega)⟩) (fun c hcn => updN_no (by omega))
  obtain ⟨z1, ⟨z2, z3⟩, z4, z5⟩ := hB3
  refine ⟨updN mc n m0, updN rt n r0, updN hc n 0, updN ow n m0, updN tb (n + 1) (tb n), ⟨fun c hcn => ?_, ⟨z2, fun c hcn => ?_⟩, by omega, z5⟩, fun c hcn => ?_, ⟨x4, ?_, ?_⟩, I_is _ _ _ _, ?_⟩
  · by_cases e : c = n
    · subst e
      refine ⟨?_, ?_, fun m m1 m2 => ?_, fun q hq => ?_⟩
      · unfold DCls
        rw [updN_is, mJ_sI, I_cl (by decide), I_cl (by decide)]
        exact hcl
      · unfold DHei
        rw [updN_is, updN_is, I_cl (by decide), I_cl (by decide)]
        rcases hhe with b | ⟨p, p1, p2, p3, p4, p5, p6, p7⟩
        · exact Or.inl b
        · refine Or.inr ⟨p, p1, p2, by rw [updN_no (by omega)]; exact p3, by rw [updN_no (by omega)]; exact p4, by rw [I_cl (by decide)]; exact p5, fun m hm => ?_⟩
          rw [updN_no (by omega)] at hm
          simp (disch := omega) only [I_is, I_cl, I_sl, J_is, J_cl, J_sl, R_is, R_cl, R_sl, mI_sJ, mI_sR, mJ_sI, mJ_sR, mR_sI, mR_sJ]
          exact ⟨p7 m hm, p6 m hm⟩
      · rw [updN_is] at m1 m2; omega
      · rw [updN_is] at hq; omega
    · exact z1 c (by omega)
  · by_cases e : c = n
    · subst e
      rw [updN_is, updN_is, updN_is, updN_is, updN_no (by omega)]
      omega
    · exact z3 c (by omega)
  · by_cases e : c = n
    · subst e
      refine ⟨⟨?_, ?_⟩, ?_, ?_⟩
      · rw [updN_is]; exact k1
      · rw [updN_is, I_cl (by decide)]; exact k2
      · rw [updN_is]; exact x3
      · rw [updN_is, I_cl (by decide)]; exact w3
    · obtain ⟨⟨y1, y2⟩, y3, y4⟩ := hN c (by omega)
      refine ⟨⟨?_, ?_⟩, ?_, ?_⟩
      · rw [updN_no e, fr.I (fun hg => by rcases hg with hg | hg | hg | hg <;> omega)]; exact y1
      · rw [updN_no e, I_cl (by decide)]; exact y2
      · rw [updN_no e, fr.I (fun hg => by rcases hg with hg | hg | hg | hg <;> omega)]; exact y3
      · rw [updN_no e, I_cl (by decide)]; exact y4
  · rw [updN_is]; exact f2
  · exact f4
  · rw [I_sl (by decide)]; exact q5
end ADDC
