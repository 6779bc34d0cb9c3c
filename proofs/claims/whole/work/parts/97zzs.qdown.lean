/-! joining down, pushing, closing, side by side -/
section QDN
variable {G : Lay} {κ0 ρ0 κ κ' ρ ρ' ρ2 κ1 ρ1 κ2 : Mem} {sc n z T i c0 t t' k A S x l : Nat} {st r : List Nat} {B : Nat → Nat} {mc rt hc P D : Nat → Nat}
theorem st154 (hM : LyM G) (hm : StM ρ) (h : QR n mc c0 1 κ ρ i (x :: r) 0 A S P D) (hx : x = 3 ∨ x = 4) (hg : ∀ (Q : Mem → Prop), Q (mg κ1 ρ') → X_X12_goes G Q 1282 (mg κ1 ρ)) {Q : Int32 → Mem → Prop} {K9 : Int32 × Int32 × Mem → Prop} {l1 l2 l3 : Int32} {K : Mem → Prop} (hK : K (mg κ1 ρ')) : X_X12_readTruth_154_s G Q K9 1282 l1 l2 l3 K (mg κ1 ρ) := by
  have ln := h.ln
  obtain ⟨⟨m1, m2, m3, m4, m5⟩, -, ⟨s1, s2, s3⟩, ⟨w1, w2⟩, -⟩ := h
  have ll : (x :: r).length = r.length + 1 := rfl
  have r170 : X_X12_readTruth_170 G Q K9 K 1282 l1 l2 l3 (mg κ1 ρ) := ⟨hM.1, hg _ hK⟩
  rcases hx with rfl | rfl
  · exact ⟨hM.1, m_wait1 (x := 3) hM hm (by decide) m5 (by omega) s1 (br1 r170)⟩
  · exact ⟨hM.1, m_wait0 (v := 3) hM hm (by decide) m5 (by omega) s1 w1 (fun q e => by cases e) (br0 (m_wait1 (x := 4) hM hm (by decide) m5 (by omega) s1 (br1 r170)))⟩
theorem j_down2 (hG : Ly G) (hC : StC κ) (hm : StM ρ) (hi : i ≤ 3000) (h : QR n mc c0 1 κ ρ i st k A S P D) (hn : ∀ r, st ≠ 2 :: r) : ∃ κ' ρ' st' A' P' D', (StC κ' ∧ StM ρ') ∧ (Eqv qrC κ κ' ∧ Eqv qrM ρ ρ') ∧ QR n mc c0 1 κ' ρ' i st' 0 A' S P' D' ∧ (st' = [] ∨ ∃ r, st' = 5 :: r) ∧ (∀ ρ1 (Q : Mem → Prop), Q (mg κ' ρ1) → X_X4_joinDown G Q 11 2 (mg κ ρ1)) ∧ ∀ κ1 (Q : Int32 → Mem → Prop) (K9 : Int32 × Int32 × Mem → Prop) (l1 l2 l3 : Int32), Lw (X_X12_readTruth_154_s G Q K9 1282 l1 l2 l3) (mg κ1 ρ') → Lw (X_X12_readTruth_154_s G Q K9 1282 l1 l2 l3) (mg κ1 ρ) := by
  have hL := hG.1
  have hM := hG.2.2.2
  obtain ⟨κs, s1, s2, s3, s4⟩ := c_sync (G := G) hL k κ hC hi h
  have wf := h.2.2.2.1.1
  -- no joiner on the top
  have stop : ∀ {κ ρ : Mem} {st : List Nat} {A : Nat} {P D : Nat → Nat}, StC κ → QR n mc c0 1 κ ρ i st 0 A S P D → (st = [] ∨ ∃ r, st = 5 :: r) → ∀ ρ1 (Q : Mem → Prop), Q (mg κ ρ1) → Lw (X_X4_joinDown_0_s G Q 11 2) (mg κ ρ1) := fun hC hR he ρ1 Q hQ => c_jd0 hL hC hR (Or.inl ⟨rfl, he⟩) hQ
  -- an "or" on the top
  have or1 : ∀ {κ ρ : Mem} {r : List Nat} {A : Nat} {P D : Nat → Nat}, StC κ → StM ρ → QR n mc c0 1 κ ρ i (4 :: r) 0 A S P D → ∃ κ' ρ' st' A' P' D', (StC κ' ∧ StM ρ') ∧ (Eqv qrC κ κ' ∧ Eqv qrM ρ ρ') ∧ QR n mc c0 1 κ' ρ' i st' 0 A' S P' D' ∧ (st' = [] ∨ ∃ r, st' = 5 :: r) ∧ (∀ ρ1 (Q : Mem → Prop), Q (mg κ' ρ1) → Lw (X_X4_joinDown_0_s G Q 11 2) (mg κ ρ1)) ∧ ∀ κ1 (Q : Int32 → Mem → Prop) (K9 : Int32 × Int32 × Mem → Prop) (l1 l2 l3 : Int32), Lw (X_X12_readTruth_154_s G Q K9 1282 l1 l2 l3) (mg κ1 ρ') → Lw (X_X12_readTruth_154_s G Q K9 1282 l1 l2 l3) (mg κ1 ρ) := fun {κ ρ r A P D} hC hm hR => by
    obtain ⟨κ', ρ', P', D', ⟨y1, y2⟩, y3, y4, y5, y6⟩ := j_pop hG hC hm hi (Or.inr rfl) hR
    have he : r = [] ∨ ∃ u, r = 5 :: u := by
      rcases hR.2.2.2.1.1.1 with e | e | ⟨-, e⟩ | ⟨e, -⟩
      · omega
      · omega
      · exact e
      · omega
    exact ⟨κ', ρ', r, A + 1, P', D', ⟨y1, y2⟩, y3, y4, he, fun ρ1 Q hQ => y5 ρ1 Q 2 (Or.inl rfl) (stop y1 y4 he ρ1 Q hQ), fun κ1 Q K9 l1 l2 l3 hh => Lw.stp (fun K hK => st154 hM hm hR (Or.inr rfl) (y6 κ1) hK) hh⟩
  have fin : ∀ {κ ρ : Mem} {st : List Nat} {A : Nat} {P D : Nat → Nat}, StC κ → StM ρ → QR n mc c0 1 κ ρ i st 0 A S P D → (∀ r, st ≠ 2 :: r) → ∃ κ' ρ' st' A' P' D', (StC κ' ∧ StM ρ') ∧ (Eqv qrC κ κ' ∧ Eqv qrM ρ ρ') ∧ QR n mc c0 1 κ' ρ' i st' 0 A' S P' D' ∧ (st' = [] ∨ ∃ r, st' = 5 :: r) ∧ (∀ ρ1 (Q : Mem → Prop), Q (mg κ' ρ1) → Lw (X_X4_joinDown_0_s G Q 11 2) (mg κ ρ1)) ∧ ∀ κ1 (Q : Int32 → Mem → Prop) (K9 : Int32 × Int32 × Mem → Prop) (l1 l2 l3 : Int32), Lw (X_X12_readTruth_154_s G Q K9 1282 l1 l2 l3) (mg κ1 ρ') → Lw (X_X12_readTruth_154_s G Q K9 1282 l1 l2 l3) (mg κ1 ρ) := fun {κ ρ st A P D} hC hm hR hn => by
    cases st with
    | nil => exact ⟨κ, ρ, [], A, P, D, ⟨hC, hm⟩, ⟨Eqv.rf, Eqv.rf⟩, hR, Or.inl rfl, stop hC hR (Or.inl rfl), fun κ1 Q K9 l1 l2 l3 hh => hh⟩
    | cons x r =>
      rcases hR.2.2.2.1.1.1 with rfl | rfl | ⟨rfl, e⟩ | ⟨rfl, e⟩
      · exact absurd rfl (hn r)
      · exact ⟨κ, ρ, 5 :: r, A, P, D, ⟨hC, hm⟩, ⟨Eqv.rf, Eqv.rf⟩, hR, Or.inr ⟨r, rfl⟩, stop hC hR (Or.inr ⟨r, rfl⟩), fun κ1 Q K9 l1 l2 l3 hh => hh⟩
      · exact or1 hC hm hR
      · obtain ⟨κ', ρ', P', D', ⟨y1, y2⟩, ⟨y3, y3'⟩, y4, y5, y6⟩ := j_pop hG hC hm hi (Or.inl rfl) hR
        have sM : ∀ κ1 (Q : Int32 → Mem → Prop) (K9 : Int32 × Int32 × Mem → Prop) (l1 l2 l3 : Int32), Lw (X_X12_readTruth_154_s G Q K9 1282 l1 l2 l3) (mg κ1 ρ') → Lw (X_X12_readTruth_154_s G Q K9 1282 l1 l2 l3) (mg κ1 ρ) := fun κ1 Q K9 l1 l2 l3 hh => Lw.stp (fun K hK => st154 hM hm hR (Or.inl rfl) (y6 κ1) hK) hh
        have end3 : (r = [] ∨ ∃ u, r = 5 :: u) → ∃ κ' ρ' st' A' P' D', (StC κ' ∧ StM ρ') ∧ (Eqv qrC κ κ' ∧ Eqv qrM ρ ρ') ∧ QR n mc c0 1 κ' ρ' i st' 0 A' S P' D' ∧ (st' = [] ∨ ∃ r, st' = 5 :: r) ∧ (∀ ρ1 (Q : Mem → Prop), Q (mg κ' ρ1) → Lw (X_X4_joinDown_0_s G Q 11 2) (mg κ ρ1)) ∧ ∀ κ1 (Q : Int32 → Mem → Prop) (K9 : Int32 × Int32 × Mem → Prop) (l1 l2 l3 : Int32), Lw (X_X12_readTruth_154_s G Q K9 1282 l1 l2 l3) (mg κ1 ρ') → Lw (X_X12_readTruth_154_s G Q K9 1282 l1 l2 l3) (mg κ1 ρ) := fun he => ⟨κ', ρ', r, A + 1, P', D', ⟨y1, y2⟩, ⟨y3, y3'⟩, y4, he, fun ρ1 Q hQ => y5 ρ1 Q 2 (Or.inl rfl) (stop y1 y4 he ρ1 Q hQ), sM⟩
        rcases e with e | e | ⟨u, e⟩
        · exact end3 (Or.inl e)
        · exact end3 (Or.inr e)
        · subst e
          obtain ⟨κ2, ρ2, st2, A2, P2, D2, ⟨v1, v2⟩, ⟨v3, v3'⟩, v4, v5, v6, v7⟩ := or1 y1 y2 y4
          exact ⟨κ2, ρ2, st2, A2, P2, D2, ⟨v1, v2⟩, ⟨y3.tr v3, y3'.tr v3'⟩, v4, v5, fun ρ1 Q hQ => y5 ρ1 Q 2 (Or.inl rfl) (v6 ρ1 Q hQ), fun κ1 Q K9 l1 l2 l3 hh => sM κ1 Q K9 l1 l2 l3 (v7 κ1 Q K9 l1 l2 l3 hh)⟩
  obtain ⟨κ2, ρ2, st2, A2, P2, D2, ⟨v1, v2⟩, ⟨v3, v3'⟩, v4, v5, v6, v7⟩ := fin s1 hm s3 hn
  exact ⟨κ2, ρ2, st2, A2, P2, D2, ⟨v1, v2⟩, ⟨s2.tr v3, v3'⟩, v4, v5, fun ρ1 Q hQ => s4 ρ1 Q 2 (Or.inr rfl) (v6 ρ1 Q hQ), v7⟩
theorem j_down1 (hG : Ly G) (hC : StC κ) (hm : StM ρ) (hi : i ≤ 3000) (h : QR n mc c0 1 κ ρ i st k A S P D) (hn : ∀ r, st ≠ 2 :: r) : ∃ κ' ρ' st' A' P' D', (StC κ' ∧ StM ρ') ∧ (Eqv qrC κ κ' ∧ Eqv qrM ρ ρ') ∧ QR n mc c0 1 κ' ρ' i st' 0 A' S P' D' ∧ (st' = [] ∨ (∃ r, st' = 5 :: r) ∨ ∃ r, st' = 4 :: r) ∧ (∀ ρ1 (Q : Mem → Prop), Q (mg κ' ρ1) → X_X4_joinDown G Q 11 1 (mg κ ρ1)) ∧ ∀ κ1 (Q : Int32 → Mem → Prop) (K9 : Int32 × Int32 × Mem → Prop) (l2 : Int32), X_X12_waitsToo G (fun s4 => X_X12_readTruth_241 G Q K9 1282 (1 : Int32) l2 s4) 1282 3 (mg κ1 ρ') → Lw (X_X12_readTruth_129_s G Q K9 1282 l2) (mg κ1 ρ) := by
  have hL := hG.1
  have hM := hG.2.2.2
  obtain ⟨κs, s1, s2, s3, s4⟩ := c_sync (G := G) hL k κ hC hi h
  have e129 : ∀ {κ ρ : Mem} {st : List Nat} {A : Nat} {P D : Nat → Nat}, StM ρ → QR n mc c0 1 κ ρ i st 0 A S P D → (st = [] ∨ (∃ r, st = 5 :: r) ∨ ∃ r, st = 4 :: r) → ∀ κ1 (Q : Int32 → Mem → Prop) (K9 : Int32 × Int32 × Mem → Prop) (l2 : Int32), X_X12_waitsToo G (fun s4 => X_X12_readTruth_241 G Q K9 1282 (1 : Int32) l2 s4) 1282 3 (mg κ1 ρ) → Lw (X_X12_readTruth_129_s G Q K9 1282 l2) (mg κ1 ρ) := fun {κ ρ st A P D} hm hR he κ1 Q K9 l2 hh => Lw.fin fun K => by
    have ln := hR.ln
    obtain ⟨⟨m1, m2, m3, m4, m5⟩, -, ⟨z1, z2, z3⟩, ⟨w1, w2⟩, -⟩ := hR
    exact ⟨hM.1, m_wait0 (v := 3) hM hm (by decide) m5 (by omega) z1 w1 (fun q e => by rcases he with e2 | ⟨u, e2⟩ | ⟨u, e2⟩ <;> rw [e2] at e <;> cases e) (br0 hh)⟩
  cases st with
  | nil => exact ⟨κs, ρ, [], A, P, D, ⟨s1, hm⟩, ⟨s2, Eqv.rf⟩, s3, Or.inl rfl, fun ρ1 Q hQ => s4 ρ1 Q 1 (Or.inl rfl) (c_jd0 hL s1 s3 (Or.inr ⟨rfl, Or.inl rfl⟩) hQ), e129 hm s3 (Or.inl rfl)⟩
  | cons x r =>
    rcases h.2.2.2.1.1.1 with rfl | rfl | ⟨rfl, e⟩ | ⟨rfl, e⟩
    · exact absurd rfl (hn r)
    · exact ⟨κs, ρ, 5 :: r, A, P, D, ⟨s1, hm⟩, ⟨s2, Eqv.rf⟩, s3, Or.inr (Or.inl ⟨r, rfl⟩), fun ρ1 Q hQ => s4 ρ1 Q 1 (Or.inl rfl) (c_jd0 hL s1 s3 (Or.inr ⟨rfl, Or.inr (Or.inl ⟨r, rfl⟩)⟩) hQ), e129 hm s3 (Or.inr (Or.inl ⟨r, rfl⟩))⟩
    · exact ⟨κs, ρ, 4 :: r, A, P, D, ⟨s1, hm⟩, ⟨s2, Eqv.rf⟩, s3, Or.inr (Or.inr ⟨r, rfl⟩), fun ρ1 Q hQ => s4 ρ1 Q 1 (Or.inl rfl) (c_jd0 hL s1 s3 (Or.inr ⟨rfl, Or.inr (Or.inr ⟨r, rfl⟩)⟩) hQ), e129 hm s3 (Or.inr (Or.inr ⟨r, rfl⟩))⟩
    · obtain ⟨κ', ρ', P', D', ⟨y1, y2⟩, ⟨y3, y3'⟩, y4, y5, y6⟩ := j_pop hG s1 hm hi (Or.inl rfl) s3
      have ln := h.ln
      obtain ⟨⟨m1, m2, m3, m4, m5⟩, -, ⟨z1, z2, z3⟩, ⟨w1, w2⟩, -⟩ := id h
      have ll : (3 :: r).length = r.length + 1 := rfl
      have sM : ∀ κ1 (Q : Int32 → Mem → Prop) (K9 : Int32 × Int32 × Mem → Prop) (l2 : Int32), Lw (X_X12_readTruth_129_s G Q K9 1282 l2) (mg κ1 ρ') → Lw (X_X12_readTruth_129_s G Q K9 1282 l2) (mg κ1 ρ) := fun κ1 Q K9 l2 hh => Lw.stp (fun K hK => ⟨hM.1, m_wait1 (x := 3) hM hm (by decide) m5 (by omega) z1 (br1 (y6 κ1 _ hK))⟩) hh
      exact ⟨κ', ρ', r, A + 1, P', D', ⟨y1, y2⟩, ⟨s2.tr y3, y3'⟩, y4, e, fun ρ1 Q hQ => s4 ρ1 Q 1 (Or.inl rfl) (y5 ρ1 Q 1 (Or.inr ⟨rfl, rfl⟩) (c_jd0 hL y1 y4 (Or.inr ⟨rfl, e⟩) hQ)), fun κ1 Q K9 l2 hh => sM κ1 Q K9 l2 (e129 y2 y4 e κ1 Q K9 l2 hh)⟩
/-- something more waits -/
theorem QR.push (h : QR n mc c0 t κ ρ i st 0 A S P D) (hw : WfS (x :: st)) (ho : opn (x :: st) ≤ 20) (hd : bin st + t = bin (x :: st) + t') (fC : Eqv (fun a q => ¬ (a = 12 ∧ q = st.length ∨ a = 11 ∧ (q = 4 ∨ q = 5))) κ κ') (fM : Eqv (fun a q => ¬ (a = 1346 ∧ q = st.length ∨ a = 1282 ∧ (q = 88 ∨ q = 93))) ρ ρ') (e12 : mI κ' 12 st.length = nI (if x = 5 then 5 else x - 2)) (e4 : mI κ' 11 4 = nI (st.length + 1)) (e5 : mI κ' 11 5 = nI (opn (x :: st))) (e46 : mI ρ' 1346 st.length = nI x) (e93 : mI ρ' 1282 93 = nI (st.length + 1)) (e88 : mI ρ' 1282 88 = nI (opn (x :: st))) : QR n mc c0 t' κ' ρ' (i + 1) (x :: st) 0 A S P D := by
  obtain ⟨⟨m1, m2, m3, m4, m5⟩, ⟨c1, c2, c3, c4⟩, ⟨s1, s2, s3⟩, w, pr, d, ⟨b1, b2, b3⟩, c0n⟩ := h
  have ll : (x :: st).length = st.length + 1 := rfl
  refine ⟨⟨?_, ?_, e88, ?_, e93⟩, ⟨?_, ?_, e4, e5⟩, ⟨⟨e46, s1.fr fun q hq => fM.I (by omega)⟩, ⟨e12, s2.fr fun q hq => fC.I (by omega)⟩, fun q hq => by omega⟩, ⟨hw, ho⟩, pr.fr (fun a j hj x y => fM.I (by omega)) (fun q hq => fM.I (by omega)) (fun j => ⟨fM.I (by omega), fM.I (by omega)⟩) (fun q hq => fC.I (by omega)), by omega, ⟨by omega, by omega, by omega⟩, c0n⟩
  · rw [fM.I (by omega)]; exact m1
  · rw [fM.I (by omega)]; exact m2
  · rw [fM.I (by omega)]; exact m4
  · rw [fC.I (by omega)]; exact c1
  · rw [fC.I (by omega)]; exact c2
theorem c_push (hL : LyC G) (hC : StC κ) (e4 : mI κ 11 4 = nI l) (hl : l < 64) {v : Int32} {Q : Mem → Prop} (q : Q (mg (sI (sI κ 12 l v) 11 4 (nI (l + 1))) ρ1)) : X_X4_push G Q 11 v (mg κ ρ1) := by
  have n6 : Int32.ofNat 64 = nI 64 := rfl
  simp (disch := omega) only [X_X4_push_32, X_X4_push_0, X_X4_push, mI_c, mR_c, mJ_c, sI_c, sJ_c, sR_c, hL.1, hL.2.1, hL.2.2, hC.1, hC.2.1, hC.2.2.1, e4, n6, nI_1, lT, lF, tT, tF, eF, pF, zT, m1F, vT, cI, true_and, and_true, true_implies, false_implies, not_false_eq_true, not_true_eq_false, forall_eq, implies_true, I_is, I_cl, I_sl, J_is, J_cl, J_sl, R_is, R_cl, R_sl, mI_sJ, mI_sR, mJ_sI, mJ_sR, mR_sI, mR_sJ]
  exact q
theorem m_waitsToo (hM : LyM G) (hm : StM ρ) (e93 : mI ρ 1282 93 = nI l) (hl : l < 3200) {v : Int32} {Q : Mem → Prop} (q : X_X12_advance G Q 1282 (mg κ1 (sI (sI ρ 1346 l v) 1282 93 (nI (l + 1))))) : X_X12_waitsToo G Q 1282 v (mg κ1 ρ) := by
  simp (disch := omega) only [X_X12_waitsToo, X_X12_waitsToo_0, mI_m, mR_m, mJ_m, sI_m, sJ_m, hM.1, hM.2, hm.1, hm.2, lT, lF, tT, tF, eF, pF, zT, m1F, vT, cI, true_and, and_true, true_implies, false_implies, not_false_eq_true, not_true_eq_false, forall_eq, implies_true, I_is, I_cl, I_sl, J_is, J_cl, J_sl, R_is, R_cl, R_sl, mI_sJ, mI_sR, mJ_sI, mJ_sR, mR_sI, mR_sJ, e93, nI_1]
  exact q
end QDN
