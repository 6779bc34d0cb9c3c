/-! joinDown, side by side -/
section QJN
variable {G : Lay} {κ0 ρ0 κ κ' ρ ρ' ρ2 κ1 ρ1 κ2 : Mem} {sc n z T i c0 t k A S x l : Nat} {st r : List Nat} {B : Nat → Nat} {mc rt hc P D : Nat → Nat} {l1 : Int32}
/-- one step of joinDown in the class: the top is v -/
theorem c_jd1 (hL : LyC G) (hC : StC κ) {w o p v : Nat} (hw : w < 64) (e4 : mI κ 11 4 = nI (w + 1)) (e5 : mI κ 11 5 = nI o) (e12 : mI κ 12 w = nI v) (hv : v ≤ 2) (hl1 : ¬ l1 < nI v) (e8 : mI κ 8 1 = nI p) (hp : p < 6000) {Q K : Mem → Prop} (q : K (mg (sI (sI (if v = 0 then sI (sI κ 11 4 (nI w)) 11 5 (nI o - 1) else sI κ 11 4 (nI w)) 9 p (nI v)) 8 1 (nI (p + 1))) ρ1)) : X_X4_joinDown_0_s G Q 11 l1 K (mg κ ρ1) := by
  have sub : nI (w + 1) - 1 = nI w := by
    show nI (w + 1) - nI 1 = nI w
    rw [pk_sub (by omega), show w + 1 - 1 = w by omega]
  have z : (nI (w + 1) ≤ 0) = False := eq_false fun e => by have := (lI (a := w + 1) (b := 0) (by omega) (by decide)).mp e; omega
  simp (disch := omega) only [X_X4_joinDown_0_s, mI_c, mR_c, mJ_c, sI_c, sJ_c, sR_c, hL.1, hL.2.1, hL.2.2, hC.1, hC.2.1, hC.2.2.1, lT, lF, tT, tF, eF, pF, zT, m1F, vT, cI, true_and, and_true, true_implies, false_implies, not_false_eq_true, not_true_eq_false, forall_eq, implies_true, I_is, I_cl, I_sl, J_is, J_cl, J_sl, R_is, R_cl, R_sl, mI_sJ, mI_sR, mJ_sI, mJ_sR, mR_sI, mR_sJ, e4, sub, z, e12, hl1]
  by_cases hv0 : v = 0
  · subst hv0
    rw [if_pos rfl] at q
    refine brT rfl ?_
    simp (disch := omega) only [X_X4_joinDown_54, mI_c, mR_c, mJ_c, sI_c, sJ_c, sR_c, hL.1, hL.2.1, hL.2.2, hC.1, hC.2.1, hC.2.2.1, lT, lF, tT, tF, eF, pF, zT, m1F, vT, cI, true_and, and_true, true_implies, false_implies, not_false_eq_true, not_true_eq_false, forall_eq, implies_true, I_is, I_cl, I_sl, J_is, J_cl, J_sl, R_is, R_cl, R_sl, mI_sJ, mI_sR, mJ_sI, mJ_sR, mR_sI, mR_sJ, e5, e12]
    refine q_add hL ((hC.wI _ _ _).wI _ _ _) (l := p) (by simp (disch := omega) only [I_is, I_cl, I_sl, J_is, J_cl, J_sl, R_is, R_cl, R_sl, mI_sJ, mI_sR, mJ_sI, mJ_sR, mR_sI, mR_sJ]; exact e8) hp q
  · rw [if_neg hv0] at q
    refine brF (fun e => hv0 ((eI (b := 0) (by omega) (by decide)).mp e)) ?_
    simp (disch := omega) only [X_X4_joinDown_54, mI_c, mR_c, mJ_c, sI_c, sJ_c, sR_c, hL.1, hL.2.1, hL.2.2, hC.1, hC.2.1, hC.2.2.1, lT, lF, tT, tF, eF, pF, zT, m1F, vT, cI, true_and, and_true, true_implies, false_implies, not_false_eq_true, not_true_eq_false, forall_eq, implies_true, I_is, I_cl, I_sl, J_is, J_cl, J_sl, R_is, R_cl, R_sl, mI_sJ, mI_sR, mJ_sI, mJ_sR, mR_sI, mR_sJ, e12]
    refine q_add hL (hC.wI _ _ _) (l := p) (by simp (disch := omega) only [I_is, I_cl, I_sl, J_is, J_cl, J_sl, R_is, R_cl, R_sl, mI_sJ, mI_sR, mJ_sI, mJ_sR, mR_sI, mR_sJ]; exact e8) hp q
theorem c_sync (hL : LyC G) : ∀ (k : Nat) (κ : Mem), StC κ → i ≤ 3000 → QR n mc c0 1 κ ρ i st k A S P D → ∃ κ', StC κ' ∧ Eqv qrC κ κ' ∧ QR n mc c0 1 κ' ρ i st 0 A S P D ∧ ∀ ρ1 (Q : Mem → Prop) (l1 : Int32), (l1 = 1 ∨ l1 = 2) → Lw (X_X4_joinDown_0_s G Q 11 l1) (mg κ' ρ1) → Lw (X_X4_joinDown_0_s G Q 11 l1) (mg κ ρ1) := by
  intro k
  induction k with
  | zero => intro κ hC hi h; exact ⟨κ, hC, Eqv.rf, h, fun ρ1 Q l1 _ hh => hh⟩
  | succ k ih =>
    intro κ hC hi h
    have ln := h.ln
    obtain ⟨⟨m1, m2, m3, m4, m5⟩, ⟨c1, c2, c3, c4⟩, ⟨s1, s2, s3⟩, ⟨w1, w2⟩, pr, d, ⟨b1, b2, b3⟩, c0n⟩ := id h
    obtain ⟨p1, p2, p3, p4, p5, p6⟩ := id pr
    obtain ⟨n1, n2⟩ := p3 (A - (k + 1)) (Nat.le_refl _) (by omega)
    have pA : P (A - k) = P (A - (k + 1)) + 1 := by rw [← n2, show A - (k + 1) + 1 = A - k by omega]
    have le := pr.le' (a := A - k) (b := A) (by omega) (Nat.le_refl _)
    have c3' : mI κ 11 4 = nI (st.length + k + 1) := c3
    have s3k : mI κ 12 (st.length + k) = nI 0 := s3 k (by omega)
    have sub : nI (opn st + (k + 1)) - 1 = nI (opn st + k) := by
      show nI (opn st + (k + 1)) - nI 1 = nI (opn st + k)
      rw [pk_sub (by omega), show opn st + (k + 1) - 1 = opn st + k by omega]
    obtain ⟨κw, ew⟩ : ∃ κw, κw = sI (sI (sI (sI κ 11 4 (nI (st.length + k))) 11 5 (nI (opn st + k))) 9 (P (A - (k + 1))) (nI 0)) 8 1 (nI (P (A - (k + 1)) + 1)) := ⟨_, rfl⟩
    have hCw : StC κw := by subst ew; exact (((hC.wI _ _ _).wI _ _ _).wI _ _ _).wI _ _ _
    have frw : Eqv (fun a q => ¬ (a = 11 ∧ (q = 4 ∨ q = 5) ∨ a = 9 ∧ q = P (A - (k + 1)) ∨ a = 8 ∧ q = 1)) κ κw := by
      subst ew
      refine (((Eqv.wI ?_ _).sI ?_ _).sI ?_ _).sI ?_ _
      all_goals exact fun h => h (by omega)
    have hR : QR n mc c0 1 κw ρ i st k A S P D := by
      refine ⟨⟨m1, m2, m3, m4, m5⟩, ⟨?_, ?_, ?_, ?_⟩, ⟨s1, s2.fr fun q hq => frw.I (by omega), fun q hq => ?_⟩, ⟨w1, by omega⟩, ⟨p1, fun j hj => ?_, fun j y1 y2 => p3 j (by omega) y2, p4, p5, by omega⟩, d, ⟨b1, b2, b3⟩, c0n⟩
      · rw [frw.I (by omega)]; exact c1
      · subst ew; rw [I_is, pA]
      · subst ew; simp (disch := omega) only [I_is, I_cl, I_sl, J_is, J_cl, J_sl, R_is, R_cl, R_sl, mI_sJ, mI_sR, mJ_sI, mJ_sR, mR_sI, mR_sJ]
      · subst ew; simp (disch := omega) only [I_is, I_cl, I_sl, J_is, J_cl, J_sl, R_is, R_cl, R_sl, mI_sJ, mI_sR, mJ_sI, mJ_sR, mR_sI, mR_sJ]
      · rw [frw.I (by omega)]; exact s3 q (by omega)
      · by_cases ej : j = A - (k + 1)
        · subst ej
          refine Or.inl ⟨2, Or.inl rfl, n1, ?_, n2⟩
          subst ew; simp (disch := omega) only [I_is, I_cl, I_sl, J_is, J_cl, J_sl, R_is, R_cl, R_sl, mI_sJ, mI_sR, mJ_sI, mJ_sR, mR_sI, mR_sJ]
        · have le2 := pr.le' (a := j + 1) (b := A - (k + 1)) (by omega) (by omega)
          exact (p2 j (by omega)).fr (Nat.le_refl _) (fun a x y => rfl) (fun q hq => rfl) (fun q hq => frw.I (by omega)) ⟨rfl, rfl⟩
    obtain ⟨κ', x1, x2, x3, x4⟩ := ih κw hCw hi hR
    refine ⟨κ', x1, (frw.mo fun a q hh => by unfold qrC at hh; omega).tr x2, x3, fun ρ1 Q l1 hl hh => Lw.stp (b := mg κw ρ1) (fun K hK => ?_) (x4 ρ1 Q l1 hl hh)⟩
    refine c_jd1 hL hC (by omega) c3' c4 s3k (by decide) (by rcases hl with rfl | rfl <;> decide) c2 (by omega) ?_
    rw [if_pos rfl, sub, ← ew]
    exact hK
theorem j_pop (hG : Ly G) (hC : StC κ) (hm : StM ρ) (hi : i ≤ 3000) (hx : x = 3 ∨ x = 4) (h : QR n mc c0 1 κ ρ i (x :: r) 0 A S P D) : ∃ κ' ρ' P' D', (StC κ' ∧ StM ρ') ∧ (Eqv qrC κ κ' ∧ Eqv qrM ρ ρ') ∧ QR n mc c0 1 κ' ρ' i r 0 (A + 1) S P' D' ∧ (∀ ρ1 (Q : Mem → Prop) (l1 : Int32), (l1 = 2 ∨ x = 3 ∧ l1 = 1) → Lw (X_X4_joinDown_0_s G Q 11 l1) (mg κ' ρ1) → Lw (X_X4_joinDown_0_s G Q 11 l1) (mg κ ρ1)) ∧ ∀ κ1 (Q : Mem → Prop), Q (mg κ1 ρ') → X_X12_goes G Q 1282 (mg κ1 ρ) := by
  have hL := hG.1
  have hM := hG.2.2.2
  have ln := h.ln
  obtain ⟨⟨m1, m2, m3, m4, m5⟩, ⟨c1, c2, c3, c4⟩, ⟨s1, s2, s3⟩, ⟨w1, w2⟩, pr, d, ⟨b1, b2, b3⟩, c0n⟩ := id h
  have ll : (x :: r).length = r.length + 1 := rfl
  have lo : opn (x :: r) = opn r := by
    show (if x = 2 ∨ x = 5 then 1 else 0) + opn r = opn r
    rw [if_neg (by omega)]; omega
  have lb : bin (x :: r) = 1 + bin r := by
    show (if x = 3 ∨ x = 4 then 1 else 0) + bin r = 1 + bin r
    rw [if_pos hx]
  have m5 : mI ρ 1282 93 = nI (r.length + 1) := m5
  have c3 : mI κ 11 4 = nI (r.length + 1) := c3
  have c2 : mI κ 8 1 = nI (P A) := c2
  have s21 : mI κ 12 r.length = nI (x - 2) := by have := s2.1; rw [if_neg (by omega)] at this; exact this
  obtain ⟨κw, ew⟩ : ∃ κw, κw = sI (sI (sI κ 11 4 (nI r.length)) 9 (P A) (nI (x - 2))) 8 1 (nI (P A + 1)) := ⟨_, rfl⟩
  have hCw : StC κw := by subst ew; exact ((hC.wI _ _ _).wI _ _ _).wI _ _ _
  have frw : Eqv (fun a q => ¬ (a = 11 ∧ q = 4 ∨ a = 9 ∧ q = P A ∨ a = 8 ∧ q = 1)) κ κw := by
    subst ew
    refine ((Eqv.wI ?_ _).sI ?_ _).sI ?_ _
    all_goals exact fun h => h (by omega)
  have hmw : StM (goM ρ r.length A x) := ((((((hm.wI _ _ _).wI _ _ _).wI _ _ _).wI _ _ _).wI _ _ _).wI _ _ _).wI _ _ _
  have frm := goM_Eqv (ρ := ρ) (l := r.length) (A := A) (x := x)
  refine ⟨κw, goM ρ r.length A x, updN P (A + 1) (P A + 1), updN D (A + 1) (if x = 2 then D A else D A - 1), ⟨hCw, hmw⟩, ⟨frw.mo fun a q hh => by unfold qrC at hh; omega, frm.mo fun a q hh => by unfold qrM at hh; omega⟩, ⟨⟨?_, ?_, ?_, ?_, ?_⟩, ⟨?_, ?_, ?_, ?_⟩, ⟨s1.2.fr fun q hq => frm.I (by omega), s2.2.fr fun q hq => frw.I (by omega), fun q hq => by omega⟩, ⟨w1.2, by omega⟩, pr.op (k' := 0) (Or.inr hx) ⟨fun e => by omega, fun _ => by omega⟩ (frm.mo fun a q hh => by omega) ?_ (Or.inr ⟨rfl, rfl, ?_, fun q hq => frw.I (by omega)⟩), ?_, ⟨?_, by omega, b3⟩, c0n⟩, fun ρ1 Q l1 hl hh => Lw.stp (b := mg κw ρ1) (fun K hK => ?_) hh, fun κ1 Q hQ => m_goes hM hm m5 (by omega) s1.1 m1 (by omega) hQ⟩
  · unfold goM; simp (disch := omega) only [I_is, I_cl, I_sl, J_is, J_cl, J_sl, R_is, R_cl, R_sl, mI_sJ, mI_sR, mJ_sI, mJ_sR, mR_sI, mR_sJ]
  · rw [frm.I (by omega)]; exact m2
  · rw [frm.I (by omega), m3, lo]
  · rw [frm.I (by omega)]; exact m4
  · unfold goM; simp (disch := omega) only [I_is, I_cl, I_sl, J_is, J_cl, J_sl, R_is, R_cl, R_sl, mI_sJ, mI_sR, mJ_sI, mJ_sR, mR_sI, mR_sJ]
  · rw [frw.I (by omega)]; exact c1
  · rw [show A + 1 - 0 = A + 1 by omega, updN_is]; subst ew; exact I_is _ _ _ _
  · subst ew; simp (disch := omega) only [I_is, I_cl, I_sl, J_is, J_cl, J_sl, R_is, R_cl, R_sl, mI_sJ, mI_sR, mJ_sI, mJ_sR, mR_sI, mR_sJ]; rfl
  · rw [frw.I (by omega), c4, lo]
  · unfold goM; simp (disch := omega) only [I_is, I_cl, I_sl, J_is, J_cl, J_sl, R_is, R_cl, R_sl, mI_sJ, mI_sR, mJ_sI, mJ_sR, mR_sI, mR_sJ]
  · subst ew; simp (disch := omega) only [I_is, I_cl, I_sl, J_is, J_cl, J_sl, R_is, R_cl, R_sl, mI_sJ, mI_sR, mJ_sI, mJ_sR, mR_sI, mR_sJ]
  · rw [updN_is, if_neg (by omega)]; omega
  · rw [updN_is]; omega
  · refine c_jd1 (v := x - 2) (w := r.length) hL hC (by omega) c3 c4 s21 (by omega) ?_ c2 (by omega) ?_
    · rcases hl with rfl | ⟨rfl, rfl⟩
      · rcases hx with rfl | rfl <;> decide
      · decide
    · rw [if_neg (by omega), ← ew]
      exact hK
/-- where joinDown stops -/
theorem c_jd0 (hL : LyC G) (hC : StC κ) (h : QR n mc c0 1 κ ρ i st 0 A S P D) (hl : (l1 = 2 ∧ (st = [] ∨ ∃ r, st = 5 :: r)) ∨ (l1 = 1 ∧ (st = [] ∨ (∃ r, st = 5 :: r) ∨ ∃ r, st = 4 :: r))) {Q : Mem → Prop} (q : Q (mg κ ρ1)) : Lw (X_X4_joinDown_0_s G Q 11 l1) (mg κ ρ1) := by
  have ln := h.ln
  obtain ⟨-, ⟨c1, c2, c3, c4⟩, ⟨s1, s2, s3⟩, -⟩ := h
  refine Lw.fin fun K => ?_
  have nil : st = [] → X_X4_joinDown_0_s G Q 11 l1 K (mg κ ρ1) := fun e => by
    subst e
    have c3 : mI κ 11 4 = 0 := c3
    have z : ((0 : Int32) ≤ 0) = True := eq_true (by decide)
    simp (disch := omega) only [X_X4_joinDown_0_s, X_X4_joinDown_73, mI_c, mR_c, mJ_c, sI_c, sJ_c, sR_c, hL.1, hL.2.1, hL.2.2, hC.1, hC.2.1, hC.2.2.1, lT, lF, tT, tF, eF, pF, zT, m1F, vT, cI, true_and, and_true, true_implies, false_implies, not_false_eq_true, not_true_eq_false, forall_eq, implies_true, c3, z]
    exact q
  have top : ∀ x r v, st = x :: r → (if x = 5 then 5 else x - 2) = v → v < 6 → l1 < nI v → X_X4_joinDown_0_s G Q 11 l1 K (mg κ ρ1) := fun x r v e ev hv hlt => by
    subst e
    have c3 : mI κ 11 4 = nI (r.length + 1) := c3
    have s21 : mI κ 12 r.length = nI v := by rw [← ev]; exact s2.1
    have hw : r.length + 1 + 0 ≤ 62 := ln.1
    have sub : nI (r.length + 1) - 1 = nI r.length := by
      show nI (r.length + 1) - nI 1 = nI r.length
      rw [pk_sub (by omega), show r.length + 1 - 1 = r.length by omega]
    have z : (nI (r.length + 1) ≤ 0) = False := eq_false fun e => by have := (lI (a := r.length + 1) (b := 0) (by omega) (by decide)).mp e; omega
    simp (disch := omega) only [X_X4_joinDown_0_s, X_X4_joinDown_73, mI_c, mR_c, mJ_c, sI_c, sJ_c, sR_c, hL.1, hL.2.1, hL.2.2, hC.1, hC.2.1, hC.2.2.1, lT, lF, tT, tF, eF, pF, zT, m1F, vT, cI, true_and, and_true, true_implies, false_implies, not_false_eq_true, not_true_eq_false, forall_eq, implies_true, c3, z, sub, s21, hlt]
    exact q
  rcases hl with ⟨rfl, h | ⟨r, h⟩⟩ | ⟨rfl, h | ⟨r, h⟩ | ⟨r, h⟩⟩
  · exact nil h
  · exact top 5 r 5 h rfl (by decide) (by decide)
  · exact nil h
  · exact top 5 r 5 h rfl (by decide) (by decide)
  · exact top 4 r 2 h rfl (by decide) (by decide)
end QJN
