/-! the question's reader: state, frames, leaves -/
def qfC (a _k : Nat) : Prop := ¬ (a = 3 ∨ a = 8 ∨ a = 9 ∨ a = 11 ∨ a = 12)
def qfM (a k : Nat) : Prop := ¬ (a = 1282 ∧ (49 ≤ k ∧ k ≤ 55 ∨ k = 80 ∨ k = 87 ∨ k = 88 ∨ k = 89 ∨ k = 93) ∨ 1339 ≤ a ∧ a ≤ 1344 ∨ a = 1346)
def qpC (a k : Nat) : Prop := ¬ (a = 3 ∧ k ≠ 5 ∧ k ≠ 6 ∨ a = 8 ∨ a = 9 ∨ a = 11 ∨ a = 12)
def qpM (a k : Nat) : Prop := ¬ (a = 1282 ∧ (49 ≤ k ∧ k ≤ 53 ∨ k = 80 ∨ k = 87 ∨ k = 88 ∨ k = 89 ∨ k = 93) ∨ 1339 ≤ a ∧ a ≤ 1344 ∨ a = 1346)
def qrC (a k : Nat) : Prop := ¬ (a = 8 ∨ a = 9 ∨ a = 11 ∧ 4 ≤ k ∨ a = 12)
def qrM (a k : Nat) : Prop := ¬ (a = 1282 ∧ (k = 80 ∨ k = 87 ∨ k = 88 ∨ k = 89 ∨ k = 93) ∨ 1339 ≤ a ∧ a ≤ 1344 ∨ a = 1346)
def QP (κ0 ρ0 : Mem) (sc : Nat) (B : Nat → Nat) (z T : Nat) (κ ρ : Mem) (i : Nat) : Prop := (StC κ ∧ StM ρ) ∧ (TC κ B z T i ∧ TM ρ B z (pos B z i)) ∧ (Eqv qpC κ0 κ ∧ Eqv qpM ρ0 ρ) ∧ mR κ 11 2 = sc
def Fq (κ0 ρ0 κ ρ : Mem) : Prop := (StC κ ∧ StM ρ) ∧ (Eqv qfC κ0 κ ∧ Eqv qfM ρ0 ρ) ∧ mI κ 3 5 = mI ρ 1282 54 ∧ mI κ 3 6 = mI ρ 1282 55
section QLF
variable {G : Lay} {κ0 ρ0 κ κ' ρ ρ' ρ2 κ1 ρ1 : Mem} {sc n z T i c m l : Nat} {B : Nat → Nat} {mc rt hc : Nat → Nat} {v : Int64}
theorem QP.fq (h : QP κ0 ρ0 sc B z T κ ρ i) : Eqv qfC κ0 κ ∧ Eqv qfM ρ0 ρ := ⟨h.2.2.1.1.mo fun a k hh => by unfold qfC at hh; unfold qpC; omega, h.2.2.1.2.mo fun a k hh => by unfold qfM at hh; unfold qpM; omega⟩
theorem QP.fail (h : QP κ0 ρ0 sc B z T κ ρ i) (f : Int32) {p : Nat} : Fq κ0 ρ0 (flC κ f p) (flM ρ f p) := by
  obtain ⟨e1, e2⟩ := h.fq
  obtain ⟨⟨h1, h2⟩, -⟩ := h
  refine ⟨⟨(h1.wI _ _ _).wI _ _ _, (h2.wI _ _ _).wI _ _ _⟩, ⟨(e1.sI (fun h => h (by omega)) _).sI (fun h => h (by omega)) _, (e2.sI (fun h => h (by omega)) _).sI (fun h => h (by omega)) _⟩, ?_, ?_⟩
  · rw [I_sl (by decide), I_is, I_sl (by decide), I_is]
  · rw [I_is, I_is]
/-- a fault at an earlier place -/
theorem QP.failAt (h : QP κ0 ρ0 sc B z T κ ρ i) (e1 : Eqv qfC κ0 κ') (h1 : StC κ') (f : Int32) {p : Nat} : Fq κ0 ρ0 (flC κ' f p) (sI (sI (sI ρ 1282 49 (nI p)) 1282 54 f) 1282 55 (nI p)) := by
  obtain ⟨-, e2⟩ := h.fq
  obtain ⟨⟨-, h2⟩, -⟩ := h
  refine ⟨⟨(h1.wI _ _ _).wI _ _ _, ((h2.wI _ _ _).wI _ _ _).wI _ _ _⟩, ⟨(e1.sI (fun h => h (by omega)) _).sI (fun h => h (by omega)) _, ((e2.sI (fun h => h (by omega)) _).sI (fun h => h (by omega)) _).sI (fun h => h (by omega)) _⟩, ?_, ?_⟩
  · rw [I_sl (by decide), I_is, I_sl (by decide), I_is]
  · rw [I_is, I_is]
theorem QP.ps (h : QP κ0 ρ0 sc B z T κ ρ i) (hi : i < T) (h2 : StM ρ2) (e : Eqv avM ρ ρ2) (t : TM ρ2 B z (pos B z (i + 1))) : QP κ0 ρ0 sc B z T (psC κ i) ρ2 (i + 1) := by
  obtain ⟨⟨x1, x2⟩, ⟨x3, x4⟩, ⟨x5, x6⟩, x7⟩ := h
  exact ⟨⟨x1.wI _ _ _, h2⟩, ⟨x3.ps hi, t⟩, ⟨x5.sI (fun h => h (by omega)) _, x6.tr (e.mo fun a k q hh => q (Or.inl ⟨hh.1, by omega⟩))⟩, x7⟩
theorem QP.fr (h : QP κ0 ρ0 sc B z T κ ρ i) (h1 : StC κ') (h2 : StM ρ') (e1 : Eqv qrC κ κ') (e2 : Eqv qrM ρ ρ') : QP κ0 ρ0 sc B z T κ' ρ' i := by
  obtain ⟨⟨x1, x2⟩, ⟨x3, x4⟩, ⟨x5, x6⟩, x7⟩ := h
  have a1 : ∀ a k, 3 ≤ a → a ≤ 6 → qrC a k := fun a k y1 y2 => by unfold qrC; omega
  exact ⟨⟨h1, h2⟩, ⟨⟨x3.1.fr (e1.I (a1 _ _ (by decide) (by decide))) (fun a k y1 y2 => ⟨e1.I (a1 _ _ (by omega) y2), e1.J (a1 _ _ (by omega) y2)⟩), (e1.I (a1 _ _ (by decide) (by decide))).trans x3.2.1, x3.2.2⟩, x4.fr (e2.mo fun a k (q : a = 1282 ∧ (k = 1 ∨ 49 ≤ k ∧ k ≤ 53) ∨ a = 1283) => by unfold qrM; omega)⟩, ⟨x5.tr (e1.mo fun a k q => by unfold qpC at q; unfold qrC; omega), x6.tr (e2.mo fun a k q => by unfold qpM at q; unfold qrM; omega)⟩, (e1.R (by unfold qrC; omega)).trans x7⟩
theorem QP.S (h : QP κ0 ρ0 sc B z T κ ρ i) (hS : RelS sc n mc rt hc κ0 ρ0) : RelS sc n mc rt hc κ ρ := by
  have hs := hS.1
  exact hS.fr (h.2.2.1.1.mo fun a k q => by unfold sCc at q; unfold qpC; omega) (h.2.2.1.2.mo fun a k q => by unfold sM at q; unfold qpM; omega)
theorem QP.N (h : QP κ0 ρ0 sc B z T κ ρ i) (hS : RelS sc n mc rt hc κ0 ρ0) (hN : RelN sc n mc κ0 ρ0) : RelN sc n mc κ ρ := by
  have hs := hS.1
  exact hN.fr hS (h.2.2.1.1.mo fun a k q => by unfold sCc at q; unfold qpC; omega) (h.2.2.1.2.mo fun a k q => by unfold sM at q; unfold qpM; omega)
theorem q_add (hL : LyC G) (hC : StC κ) (e : mI κ 8 1 = nI l) (hl : l < 6000) {w : Int32} {Q : Mem → Prop} (q : Q (mg (sI (sI κ 9 l w) 8 1 (nI (l + 1))) ρ1)) : X_X3_add G Q 8 w (mg κ ρ1) := by
  have n6 : Int32.ofNat 6000 = nI 6000 := rfl
  simp (disch := omega) only [X_X3_add_32, X_X3_add_0, X_X3_add, mI_c, mR_c, mJ_c, sI_c, sJ_c, sR_c, hL.1, hL.2.1, hL.2.2, hC.1, hC.2.1, hC.2.2.1, e, n6, nI_1, lT, lF, tT, tF, eF, pF, zT, m1F, vT, cI, true_and, and_true, true_implies, false_implies, not_false_eq_true, not_true_eq_false, forall_eq, implies_true, I_is, I_cl, I_sl, J_is, J_cl, J_sl, R_is, R_cl, R_sl, mI_sJ, mI_sR, mJ_sI, mJ_sR, mR_sI, mR_sJ]
  exact q
theorem c_addA (hL : LyC G) (hC : StC κ) (e : mI κ 8 1 = nI l) (hl : l ≤ 6000) (w : Int32) : ∃ κ' l', RunC0 (fun Q σ => X_X3_add G Q 8 w σ) κ κ' ∧ StC κ' ∧ Eqv (fun a _ => ¬ (a = 8 ∨ a = 9)) κ κ' ∧ mI κ' 8 1 = nI l' ∧ l' ≤ 6000 := by
  by_cases h : l < 6000
  · exact ⟨sI (sI κ 9 l w) 8 1 (nI (l + 1)), l + 1, fun ρ1 Q hQ => q_add hL hC e h hQ, (hC.wI _ _ _).wI _ _ _, (Eqv.wI (fun h => h (by omega)) _).sI (fun h => h (by omega)) _, I_is _ _ _ _, h⟩
  · have el : l = 6000 := by omega
    subst el
    refine ⟨κ, 6000, fun ρ1 Q hQ => ?_, hC, Eqv.rf, e, Nat.le_refl _⟩
    have n6 : Int32.ofNat 6000 = nI 6000 := rfl
    simp (disch := omega) only [X_X3_add_32, X_X3_add_0, X_X3_add, mI_c, mR_c, mJ_c, sI_c, sJ_c, sR_c, hL.1, hL.2.1, hL.2.2, hC.1, hC.2.1, hC.2.2.1, e, n6, lT, lF, tT, tF, eF, pF, zT, m1F, vT, cI, true_and, and_true, true_implies, false_implies, not_false_eq_true, not_true_eq_false, forall_eq, implies_true]
    exact hQ
theorem q_set (hL : LyC G) (hC : StC κ) (e : mI κ 8 1 = nI l) (hl : l ≤ 6000) {p : Nat} (hp : p < l) {w : Int32} {Q : Mem → Prop} (q : Q (mg (sI κ 9 p w) ρ1)) : X_X3_set G Q 8 (nI p) w (mg κ ρ1) := by
  simp (disch := omega) only [X_X3_set_19, X_X3_set_0, X_X3_set, mI_c, mR_c, mJ_c, sI_c, sJ_c, sR_c, hL.1, hL.2.1, hL.2.2, hC.1, hC.2.1, hC.2.2.1, e, lT, lF, tT, tF, eF, pF, zT, m1F, vT, cI, true_and, and_true, true_implies, false_implies, not_false_eq_true, not_true_eq_false, forall_eq, implies_true, I_is, I_cl, I_sl, J_is, J_cl, J_sl, R_is, R_cl, R_sl, mI_sJ, mI_sR, mJ_sI, mJ_sR, mR_sI, mR_sJ]
  exact q
theorem c_isAhead1 {Q : Int32 → Mem → Prop} {s : Nat} (hL : LyC G) (hC : StC κ) (h : TC κ B z T i) (hi : i < T) (hs : s < 256) (a : sgA B z (pos B z (i + 1)) s) (q : Q 1 (mg κ ρ1)) : X_X8_isAhead G Q 3 (lN s) (mg κ ρ1) := by
  have hz := h.zz
  have t := h.1.2.2.2 (i + 1) (by omega)
  have k5 : mI κ 4 (i + 1) = 5 := t.2.1.trans (srt_5.mpr a.1)
  have kj : mJ κ 6 (i + 1) = lN s := (t.2.2.2.2 a.1).trans (by rw [a.2])
  have n5 : (5 : Int32) = nI 5 := rfl
  simp (disch := omega) only [X_X8_isAhead_47, X_X8_isAhead_46, X_X8_isAhead_0, X_X8_isAhead, mI_c, mR_c, mJ_c, sI_c, sJ_c, sR_c, hL.1, hL.2.1, hL.2.2, hC.1, hC.2.1, hC.2.2.1, h.2.1, h.1.1.1, k5, kj, nI_1, lg_cmp_eq, lT, lF, tT, tF, eF, pF, zT, m1F, vT, cI, true_and, and_true, true_implies, false_implies, not_false_eq_true, not_true_eq_false, forall_eq, implies_true, bzT1]
  exact q
theorem c_isAhead0 {Q : Int32 → Mem → Prop} {s : Nat} (hL : LyC G) (hC : StC κ) (h : TC κ B z T i) (hi : i < T) (hs : s < 256) (hB : ∀ k, k < z → B k < 256) (a : ¬ sgA B z (pos B z (i + 1)) s) (q : Q 0 (mg κ ρ1)) : X_X8_isAhead G Q 3 (lN s) (mg κ ρ1) := by
  have hz := h.zz
  have t := h.1.2.2.2 (i + 1) (by omega)
  by_cases k4 : tkd B z (pos B z (i + 1)) = 4
  · have k5 : mI κ 4 (i + 1) = 5 := t.2.1.trans (srt_5.mpr k4)
    have kj : mJ κ 6 (i + 1) = lN (B (pos B z (i + 1))) := t.2.2.2.2 k4
    have ne : (mJ κ 6 (i + 1) = lN s) = False := eq_false fun e => (nS (B := B) (z := z) (p := pos B z (i + 1)) a hs rfl) (Or.inr ⟨k4, kj.symm.trans e⟩)
    simp (disch := omega) only [X_X8_isAhead_47, X_X8_isAhead_46, X_X8_isAhead_0, X_X8_isAhead, mI_c, mR_c, mJ_c, sI_c, sJ_c, sR_c, hL.1, hL.2.1, hL.2.2, hC.1, hC.2.1, hC.2.2.1, h.2.1, h.1.1.1, k5, ne, nI_1, lg_cmp_eq, lT, lF, tT, tF, eF, pF, zT, m1F, vT, cI, true_and, and_true, true_implies, false_implies, not_false_eq_true, not_true_eq_false, forall_eq, implies_true, bzT0]
    exact q
  · have k5 : (mI κ 4 (i + 1) = 5) = False := eq_false fun e => k4 (srt_5.mp (t.2.1.symm.trans e))
    simp (disch := omega) only [X_X8_isAhead_47, X_X8_isAhead_46, X_X8_isAhead_0, X_X8_isAhead, mI_c, mR_c, mJ_c, sI_c, sJ_c, sR_c, hL.1, hL.2.1, hL.2.2, hC.1, hC.2.1, hC.2.2.1, h.2.1, h.1.1.1, k5, nI_1, lT, lF, tT, tF, eF, pF, zT, m1F, vT, cI, true_and, and_true, true_implies, false_implies, not_false_eq_true, not_true_eq_false, forall_eq, implies_true, bzT0]
    exact q
theorem c_canStand {Q : Int32 → Mem → Prop} {x kd : Nat} {more tr : Int32} (hx : gT G x = 3) (hx2 : x < 1282) (h5 : kd ≤ 5) (e : mI κ x 2 = nI kd) (q : Q (if (more = 0 ∧ tr = 0) then (if kd < 4 then 1 else 0) else (if kd = 4 then 1 else 0)) (mg κ ρ1)) : X_X4_canStand G Q x more tr (mg κ ρ1) := by
  have n4 : (4 : Int32) = nI 4 := rfl
  have r8 : (¬ (more = 0 ∧ tr = 0)) → X_X4_canStand_8 G Q x (mg κ ρ1) := fun hn => by
    rw [if_neg hn] at q
    unfold X_X4_canStand_8
    rw [mI_c hx2, e]
    by_cases h4 : kd = 4
    · subst h4
      rw [if_pos rfl] at q
      exact ⟨hx, brT rfl ⟨bz1, q⟩⟩
    · rw [if_neg h4] at q
      exact ⟨hx, brF (fun e => h4 ((eI (b := 4) (by omega) (by decide)).mp e)) ⟨bz0, q⟩⟩
  refine ⟨fun e1 => ⟨fun e2 => ⟨hx, c_leading hx hx2 h5 e ?_⟩, fun e2 => r8 fun h => e2 h.2⟩, fun e1 => r8 fun h => e1 h.1⟩
  rw [if_pos ⟨e1, e2⟩] at q
  by_cases h4 : kd < 4
  · rw [if_pos h4] at q
    rw [if_neg (by omega)]
    exact br0 ⟨bz1, q⟩
  · rw [if_neg h4] at q
    rw [if_pos (by omega)]
    exact br1 ⟨bz0, q⟩
theorem m_mbNamed0 {Q : Int32 → Mem → Prop} {t : Nat} (hM : LyM G) (hm : StM ρ) (hc : c < 12) (hn : mI ρ 1287 c = nI t) (h16 : t ≤ 16) (q : Q (fdx (fun j => mJ ρ 1289 (16 * c + j)) v t) (mg κ1 ρ)) : X_X12_memberNamed G Q 1282 (nI c) v (mg κ1 ρ) := by
  rcases fdx_cases (f := fun j => mJ ρ 1289 (16 * c + j)) (v := v) t (by omega) with ⟨e, h⟩ | ⟨b, hb, e, h1, h2⟩
  · rw [e] at q; exact m_memberNamed0 hM hm (by omega) hn h16 h q
  · rw [e] at q; exact m_memberNamed1 hM hm (by omega) hn h16 hb h1 h2 q
end QLF
