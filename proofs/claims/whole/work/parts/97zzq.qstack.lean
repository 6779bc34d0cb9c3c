/-! what waits, side by side -/
def QR (n : Nat) (mc : Nat → Nat) (c0 t : Nat) (κ ρ : Mem) (i : Nat) (st : List Nat) (k A S : Nat) (P D : Nat → Nat) : Prop := (mI ρ 1282 80 = nI A ∧ mI ρ 1282 87 = nI S ∧ mI ρ 1282 88 = nI (opn st) ∧ mI ρ 1282 89 = nI c0 ∧ mI ρ 1282 93 = nI st.length) ∧ (mI κ 8 0 = nI c0 ∧ mI κ 8 1 = nI (P (A - k)) ∧ mI κ 11 4 = nI (st.length + k) ∧ mI κ 11 5 = nI (opn st + k)) ∧ (StkM ρ st ∧ StkC κ st ∧ ∀ q, q < k → mI κ 12 (st.length + q) = 0) ∧ (WfS st ∧ opn st + k ≤ 20) ∧ Prog n mc κ ρ c0 A k S P D ∧ D A = bin st + t ∧ (P A + st.length + 4 ≤ 2 * i ∧ A + st.length ≤ i ∧ S ≤ i) ∧ c0 < n
section QST
variable {G : Lay} {κ0 ρ0 κ κ' ρ ρ' ρ2 κ1 ρ1 κ2 : Mem} {sc n z T i c0 t k A S x l : Nat} {st r : List Nat} {B : Nat → Nat} {mc rt hc P D : Nat → Nat}
theorem QT.R (h : QT κ0 ρ0 sc n mc B z T c0 t κ ρ i st k A S P D) : QR n mc c0 t κ ρ i st k A S P D := h.2
theorem QR.qt (h : QR n mc c0 t κ ρ i st k A S P D) (hP : QP κ0 ρ0 sc B z T κ ρ i) : QT κ0 ρ0 sc n mc B z T c0 t κ ρ i st k A S P D := ⟨hP, h⟩
theorem QR.ln (h : QR n mc c0 t κ ρ i st k A S P D) : st.length + k ≤ 62 ∧ bin st ≤ 42 := by
  obtain ⟨-, -, -, ⟨w1, w2⟩, -⟩ := h
  have b := w1.bnd
  exact ⟨by omega, by omega⟩
/-- a token passed: nothing changes here -/
theorem QR.fr (h : QR n mc c0 t κ ρ i st k A S P D) (hi : i ≤ l) (e1 : ∀ a q, a = 8 ∨ a = 9 ∨ a = 11 ∨ a = 12 → mI κ' a q = mI κ a q) (e2 : ∀ a q, a = 1282 ∧ 80 ≤ q ∧ q ≤ 93 ∨ 1339 ≤ a ∧ a ≤ 1346 ∨ a = 1290 ∨ a = 1291 → mI ρ' a q = mI ρ a q) : QR n mc c0 t κ' ρ' l st k A S P D := by
  obtain ⟨⟨m1, m2, m3, m4, m5⟩, ⟨c1, c2, c3, c4⟩, ⟨s1, s2, s3⟩, w, pr, d, ⟨b1, b2, b3⟩, c0n⟩ := h
  refine ⟨⟨?_, ?_, ?_, ?_, ?_⟩, ⟨?_, ?_, ?_, ?_⟩, ⟨s1.fr fun q hq => e2 _ _ (by omega), s2.fr fun q hq => e1 _ _ (by omega), fun q hq => ?_⟩, w, pr.fr (fun a j hj x y => e2 _ _ (by omega)) (fun q hq => e2 _ _ (by omega)) (fun j => ⟨e2 _ _ (by omega), e2 _ _ (by omega)⟩) (fun q hq => e1 _ _ (by omega)), d, ⟨by omega, by omega, by omega⟩, c0n⟩
  · rw [e2 _ _ (by omega)]; exact m1
  · rw [e2 _ _ (by omega)]; exact m2
  · rw [e2 _ _ (by omega)]; exact m3
  · rw [e2 _ _ (by omega)]; exact m4
  · rw [e2 _ _ (by omega)]; exact m5
  · rw [e1 _ _ (by omega)]; exact c1
  · rw [e1 _ _ (by omega)]; exact c2
  · rw [e1 _ _ (by omega)]; exact c3
  · rw [e1 _ _ (by omega)]; exact c4
  · rw [e1 _ _ (by omega)]; exact s3 q hq
def goM (ρ : Mem) (l A x : Nat) : Mem := sI (sI (sI (sI (sI (sI (sI ρ 1282 93 (nI l)) 1339 A (nI x)) 1340 A 0) 1341 A 0) 1342 A 0) 1343 A 0) 1282 80 (nI (A + 1))
theorem m_goes (hM : LyM G) (hm : StM ρ) (e93 : mI ρ 1282 93 = nI (l + 1)) (hl : l < 3200) (e46 : mI ρ 1346 l = nI x) (e80 : mI ρ 1282 80 = nI A) (hA : A < 3200) {Q : Mem → Prop} (q : Q (mg κ1 (goM ρ l A x))) : X_X12_goes G Q 1282 (mg κ1 ρ) := by
  have sub : nI (l + 1) - 1 = nI l := by
    show nI (l + 1) - nI 1 = nI l
    rw [pk_sub (by omega), show l + 1 - 1 = l by omega]
  simp (disch := omega) only [X_X12_goes, X_X12_goes_0, mI_m, mR_m, mJ_m, sI_m, sJ_m, hM.1, hM.2, hm.1, hm.2, lT, lF, tT, tF, eF, pF, zT, m1F, vT, cI, true_and, and_true, true_implies, false_implies, not_false_eq_true, not_true_eq_false, forall_eq, implies_true, I_is, I_cl, I_sl, J_is, J_cl, J_sl, R_is, R_cl, R_sl, mI_sJ, mI_sR, mJ_sI, mJ_sR, mR_sI, mR_sJ, e93, sub, e46]
  refine m_does hM (hm.wI _ _ _) (A := A) (by simp (disch := omega) only [I_is, I_cl, I_sl, J_is, J_cl, J_sl, R_is, R_cl, R_sl, mI_sJ, mI_sR, mJ_sI, mJ_sR, mR_sI, mR_sJ]; exact e80) hA q
theorem goM_Eqv : Eqv (fun a q => ¬ (a = 1282 ∧ (q = 80 ∨ q = 93) ∨ 1339 ≤ a ∧ a ≤ 1343 ∧ q = A)) ρ (goM ρ l A x) := by
  refine ((((((Eqv.wI ?_ _).sI ?_ _).sI ?_ _).sI ?_ _).sI ?_ _).sI ?_ _).sI ?_ _
  all_goals exact fun h => h (by omega)
/-- the program, one joiner or "not" longer on the reference's side -/
theorem Prog.op (h : Prog n mc κ ρ c0 A k S P D) (hx : x = 2 ∨ x = 3 ∨ x = 4) (hd : (x = 2 → 1 ≤ D A) ∧ (x ≠ 2 → 2 ≤ D A)) (fr : Eqv (fun a q => ¬ (a = 1282 ∨ a = 1346 ∨ 1339 ≤ a ∧ a ≤ 1343 ∧ q = A)) ρ ρ') (e39 : mI ρ' 1339 A = nI x) {k' : Nat} (hk : (x = 2 ∧ k' = k + 1 ∧ ∀ q, q < P (A - k) → mI κ' 9 q = mI κ 9 q) ∨ (k = 0 ∧ k' = 0 ∧ mI κ' 9 (P A) = nI (x - 2) ∧ ∀ q, q < P A → mI κ' 9 q = mI κ 9 q)) : Prog n mc κ' ρ' c0 (A + 1) k' S (updN P (A + 1) (P A + 1)) (updN D (A + 1) (if x = 2 then D A else D A - 1)) := by
  obtain ⟨p1, p2, p3, p4, p5, p6⟩ := id h
  have g : ∀ a q, a ≠ 1282 → a ≠ 1346 → (a < 1339 ∨ 1343 < a ∨ q ≠ A) → mI ρ' a q = mI ρ a q := fun a q x y z => fr.I (by omega)
  have eP : ∀ j, j ≤ A → updN P (A + 1) (P A + 1) j = P j := fun j hj => updN_no (by omega)
  have eD : ∀ j, j ≤ A → updN D (A + 1) (if x = 2 then D A else D A - 1) j = D j := fun j hj => updN_no (by omega)
  have old : ∀ j, j < A - k → (∀ q, q < P (j + 1) → mI κ' 9 q = mI κ 9 q) → ActC κ' ρ' S (updN P (A + 1) (P A + 1)) j := fun j hj hq => (p2 j hj).fr (Nat.le_refl _) (fun a x y => g a j (by omega) (by omega) (by omega)) (fun q hq => g _ _ (by decide) (by decide) (by omega)) hq ⟨eP j (by omega), eP (j + 1) (by omega)⟩
  refine ⟨fun j hj => ?_, fun j hj => ?_, fun j y1 y2 => ?_, ?_, ?_, ?_⟩
  · by_cases ej : j = A
    · subst ej
      refine Or.inl ⟨x, hx, e39, fun e => ?_, fun e => ?_⟩
      · rw [eD j (Nat.le_refl _), updN_is, if_pos e]; exact ⟨hd.1 e, rfl⟩
      · rw [eD j (Nat.le_refl _), updN_is, if_neg e]; have := hd.2 e; exact ⟨this, by omega⟩
    · exact (p1 j (by omega)).fr (Nat.le_refl _) (fun a x y => g a j (by omega) (by omega) (by omega)) (fun q hq => g _ _ (by decide) (by decide) (by omega)) (fun j => ⟨g _ _ (by decide) (by decide) (by omega), g _ _ (by decide) (by decide) (by omega)⟩) ⟨eD j (by omega), eD (j + 1) (by omega)⟩
  · rcases hk with ⟨k1, k2, k3⟩ | ⟨k1, k2, k3, k4⟩
    · refine old j (by omega) (fun q hq => k3 q ?_)
      have := h.le' (a := j + 1) (b := A - k) (by omega) (by omega)
      omega
    · by_cases ej : j = A
      · subst ej
        unfold ActC
        rw [eP j (Nat.le_refl _), updN_is]
        exact Or.inl ⟨x, hx, e39, k3, rfl⟩
      · refine old j (by omega) (fun q hq => k4 q ?_)
        have := h.le' (a := j + 1) (b := A) (by omega) (by omega)
        omega
  · rcases hk with ⟨k1, k2, k3⟩ | ⟨k1, k2, k3, k4⟩
    · by_cases ej : j = A
      · subst ej
        rw [e39, k1, updN_is, eP j (Nat.le_refl _)]; exact ⟨rfl, rfl⟩
      · rw [g _ _ (by decide) (by decide) (by omega), eP j (by omega), eP (j + 1) (by omega)]
        exact p3 j (by omega) (by omega)
    · omega
  · rw [eP 0 (by omega)]; exact p4
  · rw [eD 0 (by omega)]; exact p5
  · omega
theorem m_wait1 (hM : LyM G) (hm : StM ρ) (hx : x < 6) (e93 : mI ρ 1282 93 = nI (x :: r).length) (hl : r.length < 3200) (hs : StkM ρ (x :: r)) {Q : Int32 → Mem → Prop} (q : Q 1 (mg κ1 ρ)) : X_X12_isWaiting G Q 1282 (nI x) (mg κ1 ρ) := by
  have e93 : mI ρ 1282 93 = nI (r.length + 1) := e93
  have sub : nI (r.length + 1) - 1 = nI r.length := by
    show nI (r.length + 1) - nI 1 = nI r.length
    rw [pk_sub (by omega), show r.length + 1 - 1 = r.length by omega]
  have z : (nI (r.length + 1) ≤ 0) = False := eq_false fun e => by have := (lI (a := r.length + 1) (b := 0) (by omega) (by decide)).mp e; omega
  simp (disch := omega) only [X_X12_isWaiting_27, X_X12_isWaiting_26, X_X12_isWaiting_0, X_X12_isWaiting, mI_m, mR_m, mJ_m, sI_m, sJ_m, hM.1, hM.2, hm.1, hm.2, lT, lF, tT, tF, eF, pF, zT, m1F, vT, cI, true_and, and_true, true_implies, false_implies, not_false_eq_true, not_true_eq_false, forall_eq, implies_true, e93, sub, z, hs.1, bzT1]
  exact q
theorem m_wait0 (hM : LyM G) (hm : StM ρ) {v : Nat} (hv : v < 6) (e93 : mI ρ 1282 93 = nI st.length) (hl : st.length < 3200) (hs : StkM ρ st) (hw : WfS st) (hn : ∀ r, st ≠ v :: r) {Q : Int32 → Mem → Prop} (q : Q 0 (mg κ1 ρ)) : X_X12_isWaiting G Q 1282 (nI v) (mg κ1 ρ) := by
  cases st with
  | nil =>
    have e93 : mI ρ 1282 93 = 0 := e93
    have z : ((0 : Int32) ≤ 0) = True := eq_true (by decide)
    simp (disch := omega) only [X_X12_isWaiting_27, X_X12_isWaiting_26, X_X12_isWaiting_0, X_X12_isWaiting, mI_m, mR_m, mJ_m, sI_m, sJ_m, hM.1, hM.2, hm.1, hm.2, lT, lF, tT, tF, eF, pF, zT, m1F, vT, cI, true_and, and_true, true_implies, false_implies, not_false_eq_true, not_true_eq_false, forall_eq, implies_true, e93, z, bzT0]
    exact q
  | cons x r =>
    have e93 : mI ρ 1282 93 = nI (r.length + 1) := e93
    have hl : r.length + 1 < 3200 := hl
    have hx : x ≠ v := fun e => hn r (by rw [e])
    have x6 : x < 6 := by rcases hw.1 with h | h | h | h <;> omega
    have sub : nI (r.length + 1) - 1 = nI r.length := by
      show nI (r.length + 1) - nI 1 = nI r.length
      rw [pk_sub (by omega), show r.length + 1 - 1 = r.length by omega]
    have z : (nI (r.length + 1) ≤ 0) = False := eq_false fun e => by have := (lI (a := r.length + 1) (b := 0) (by omega) (by decide)).mp e; omega
    simp (disch := omega) only [X_X12_isWaiting_27, X_X12_isWaiting_26, X_X12_isWaiting_0, X_X12_isWaiting, mI_m, mR_m, mJ_m, sI_m, sJ_m, hM.1, hM.2, hm.1, hm.2, lT, lF, tT, tF, eF, pF, zT, m1F, vT, cI, true_and, and_true, true_implies, false_implies, not_false_eq_true, not_true_eq_false, forall_eq, implies_true, e93, sub, z, hs.1, bzT0]
    exact q
theorem m_endsNot (hM : LyM G) : ∀ (st : List Nat) (k A : Nat) (P D : Nat → Nat) (ρ : Mem), StM ρ → i ≤ 3000 → QR n mc c0 1 κ ρ i st k A S P D → ∃ ρ' st' k' A' P' D', RunM0 (fun Q σ => X_X12_endsNot G Q 1282 σ) ρ ρ' ∧ StM ρ' ∧ Eqv qrM ρ ρ' ∧ QR n mc c0 1 κ ρ' i st' k' A' S P' D' ∧ ∀ r, st' ≠ 2 :: r := by
  intro st
  induction st with
  | nil =>
    intro k A P D ρ hm hi h
    refine ⟨ρ, [], k, A, P, D, fun κ1 Q hQ => Lw.fin fun K => ⟨hM.1, ?_⟩, hm, Eqv.rf, h, fun r e => by cases e⟩
    exact m_wait0 (v := 2) (st := []) hM hm (by decide) h.1.2.2.2.2 (by decide) trivial trivial (fun r e => by cases e) (br0 hQ)
  | cons x r ih =>
    intro k A P D ρ hm hi h
    have ln := h.ln
    obtain ⟨⟨m1, m2, m3, m4, m5⟩, ⟨c1, c2, c3, c4⟩, ⟨s1, s2, s3⟩, ⟨w1, w2⟩, pr, d, ⟨b1, b2, b3⟩, c0n⟩ := id h
    have ll : (x :: r).length = r.length + 1 := rfl
    by_cases hx : x = 2
    · subst hx
      have lo : opn (2 :: r) = 1 + opn r := rfl
      have lb : bin (2 :: r) = 0 + bin r := rfl
      have m5 : mI ρ 1282 93 = nI (r.length + 1) := m5
      obtain ⟨ρw, ew⟩ : ∃ ρw, ρw = sI (goM ρ r.length A 2) 1282 88 (nI (opn r)) := ⟨_, rfl⟩
      have hmw : StM ρw := by subst ew; exact (((((((hm.wI _ _ _).wI _ _ _).wI _ _ _).wI _ _ _).wI _ _ _).wI _ _ _).wI _ _ _).wI _ _ _
      have frw : Eqv (fun a q => ¬ (a = 1282 ∧ (q = 80 ∨ q = 93 ∨ q = 88) ∨ 1339 ≤ a ∧ a ≤ 1343 ∧ q = A)) ρ ρw := by
        subst ew; exact (goM_Eqv.mo fun a q hh => by omega).sI (fun h => h (by omega)) _
      have e39 : mI ρw 1339 A = nI 2 := by subst ew; unfold goM; simp (disch := omega) only [I_is, I_cl, I_sl, J_is, J_cl, J_sl, R_is, R_cl, R_sl, mI_sJ, mI_sR, mJ_sI, mJ_sR, mR_sI, mR_sJ]
      have hR : QR n mc c0 1 κ ρw i r (k + 1) (A + 1) S (updN P (A + 1) (P A + 1)) (updN D (A + 1) (if 2 = 2 then D A else D A - 1)) := by
        have pA : P (A + 1 - (k + 1)) = P (A - k) := by rw [show A + 1 - (k + 1) = A - k by omega]
        refine ⟨⟨?_, ?_, ?_, ?_, ?_⟩, ⟨c1, ?_, ?_, ?_⟩, ⟨s1.2.fr fun q hq => frw.I (by omega), s2.2, fun q hq => ?_⟩, ⟨w1.2, by omega⟩, pr.op (x := 2) (k' := k + 1) (Or.inl rfl) ⟨fun _ => by omega, fun e => absurd rfl e⟩ (frw.mo fun a q hh => by omega) e39 (Or.inl ⟨rfl, rfl, fun q hq => rfl⟩), ?_, ⟨?_, by omega, b3⟩, c0n⟩
        · subst ew; unfold goM; simp (disch := omega) only [I_is, I_cl, I_sl, J_is, J_cl, J_sl, R_is, R_cl, R_sl, mI_sJ, mI_sR, mJ_sI, mJ_sR, mR_sI, mR_sJ]
        · rw [frw.I (by omega)]; exact m2
        · subst ew; exact I_is _ _ _ _
        · rw [frw.I (by omega)]; exact m4
        · subst ew; unfold goM; simp (disch := omega) only [I_is, I_cl, I_sl, J_is, J_cl, J_sl, R_is, R_cl, R_sl, mI_sJ, mI_sR, mJ_sI, mJ_sR, mR_sI, mR_sJ]
        · rw [updN_no (by omega), pA]; exact c2
        · rw [c3, ll, show r.length + 1 + k = r.length + (k + 1) by omega]
        · rw [c4, lo, show 1 + opn r + k = opn r + (k + 1) by omega]
        · by_cases e : q = 0
          · subst e; exact s2.1
          · have := s3 (q - 1) (by omega)
            rw [ll, show r.length + 1 + (q - 1) = r.length + q by omega] at this
            exact this
        · rw [updN_is, if_pos rfl]; omega
        · rw [updN_is]; omega
      obtain ⟨ρ', st', k', A', P', D', x1, x2, x3, x4, x5⟩ := ih (k + 1) (A + 1) _ _ ρw hmw hi hR
      refine ⟨ρ', st', k', A', P', D', fun κ1 Q hQ => Lw.stp (b := mg κ1 ρw) (fun K hK => ⟨hM.1, ?_⟩) (x1 κ1 Q hQ), x2, (frw.mo fun a q hh => by unfold qrM at hh; omega).tr x3, x4, x5⟩
      refine m_wait1 (x := 2) (r := r) hM hm (by decide) m5 (by omega) s1 (br1 (m_goes hM hm m5 (by omega) s1.1 m1 (by omega) ?_))
      have e88 : mI (goM ρ r.length A 2) 1282 88 = nI (1 + opn r) := by unfold goM; simp (disch := omega) only [I_is, I_cl, I_sl, J_is, J_cl, J_sl, R_is, R_cl, R_sl, mI_sJ, mI_sR, mJ_sI, mJ_sR, mR_sI, mR_sJ]; exact m3
      have sub : nI (1 + opn r) - 1 = nI (opn r) := by
        show nI (1 + opn r) - nI 1 = nI (opn r)
        rw [pk_sub (by omega), show 1 + opn r - 1 = opn r by omega]
      intro s5 hs5
      subst hs5
      rw [mI_m (by decide), sI_m (by decide), e88, sub, ← ew]
      exact hK
    · have nh : ∀ q, x :: r ≠ 2 :: q := fun q e => by cases e; exact hx rfl
      exact ⟨ρ, x :: r, k, A, P, D, fun κ1 Q hQ => Lw.fin fun K => ⟨hM.1, m_wait0 (v := 2) hM hm (by decide) m5 (by omega) s1 w1 nh (br0 hQ)⟩, hm, Eqv.rf, h, nh⟩
end QST
