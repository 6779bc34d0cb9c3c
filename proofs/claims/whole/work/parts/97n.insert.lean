section INSERT
variable {G : Lay} {nn sc n r0 r1 w : Nat} {mc rt hc K N N1 us : Nat → Nat} {κ κ' κ0 ρ ρ' ρ0 κ1 ρ1 : Mem} {u k f p : Nat} {C : Int32 → Int32 → Int32}
theorem wt_cg (e : ∀ a k, a ≠ 1336 → a ≠ 1337 → mI ρ' a k = mI ρ a k) (u k m : Nat) : wt us mc rt ρ' u k m ↔ wt us mc rt ρ u k m := by
  unfold wt
  simp (disch := decide) only [e]
/-- the reference's row of a new object -/
theorem m_insHead (hM : LyM G) (hm : StM ρ) (hS : RelS sc n mc rt hc κ ρ) (hu : u < 4) (h60 : us u ≤ 60) (eu : mI ρ 1317 u = nI (us u)) (hk : k < us u) {c : Nat} (hc1 : c < n) (ec : mI ρ 1322 (60 * u + k) = nI c) (uq : ∀ a b, a < us u → b < us u → mI ρ 1320 (60 * u + a) = mI ρ 1320 (60 * u + b) → mI ρ 1321 (60 * u + a) = mI ρ 1321 (60 * u + b) → a = b) :
    ∃ ρ9, (∀ κ1 (Q : Int32 → Mem → Prop), X_X12_insert_96 G Q 1282 (nI (60 * u + k)) (nI c) 0 0 (mg κ1 ρ9) → X_X12_insert G Q 1282 (nI (60 * u + k)) (mg κ1 ρ)) ∧ StM ρ9 ∧ Eqv (fun a j => ¬ (a = 1336 ∧ 16 * (60 * u + k) ≤ j ∧ j < 16 * (60 * u + k) + 16 ∨ a = 1337)) ρ ρ9 ∧ (∀ m, m < 16 → mI ρ9 1336 (16 * (60 * u + k) + m) = if wtB us mc rt ρ u k m = true then 1 else 0) ∧ ∀ m, m < 16 → mI ρ9 1337 m = if wtB us mc rt ρ u k m = true then 0 else mI ρ 1324 (16 * (60 * u + k) + m) := by
  have h12 := hS.le
  obtain ⟨-, -, -, -, ew, h16, -⟩ := hS.cls hc1
  have n16 : (16 : Int32) = nI 16 := rfl
  obtain ⟨⟨b1, ρ9⟩, ⟨hb, hm9, fr9, f1, f2⟩, run⟩ := Lw.run (ι := Mem × (Int32 → Mem → Prop)) (fun z => X_X12_insert_9_s G z.2 1282 (nI (60 * u + k)) (nI c)) (fun (b : Nat × Mem) z => (nI b.1, mg z.1 b.2)) 16 (fun i b => b.1 = i ∧ StM b.2 ∧ Eqv (fun a j => ¬ (a = 1336 ∧ 16 * (60 * u + k) ≤ j ∧ j < 16 * (60 * u + k) + 16 ∨ a = 1337)) ρ b.2 ∧ (∀ m, m < i → mI b.2 1336 (16 * (60 * u + k) + m) = if wtB us mc rt ρ u k m = true then 1 else 0) ∧ ∀ m, m < i → mI b.2 1337 m = if wtB us mc rt ρ u k m = true then 0 else mI ρ 1324 (16 * (60 * u + k) + m)) (by
    rintro i ⟨b1, ρb⟩ hi ⟨hb, hm, fr, f1, f2⟩
    have hb : b1 = i := hb
    subst hb
    have hm : StM ρb := hm
    have fr : Eqv _ ρ ρb := fr
    have e : ∀ a k, a ≠ 1336 → a ≠ 1337 → mI ρb a k = mI ρ a k := fun a k h1 h2 => fr.I (by omega)
    have ec' : mI ρb 1322 (60 * u + k) = nI c := (e _ _ (by decide) (by decide)).trans ec
    have ew' : mI ρb 1287 c = nI (mc c) := (e _ _ (by decide) (by decide)).trans ew
    have ev : mI ρb 1324 (16 * (60 * u + k) + b1) = mI ρ 1324 (16 * (60 * u + k) + b1) := e _ _ (by decide) (by decide)
    have hS' : RelS sc n mc rt hc κ ρb := hS.fr Eqv.rf (fr.mo fun a j z => by simp only [sM] at z; omega)
    have st : ∀ v w : Int32, (if wtB us mc rt ρ u k b1 = true then (1 : Int32) else 0) = v → (if wtB us mc rt ρ u k b1 = true then 0 else mI ρ 1324 (16 * (60 * u + k) + b1)) = w → StM (sI (sI ρb 1336 (16 * (60 * u + k) + b1) v) 1337 b1 w) ∧ Eqv (fun a j => ¬ (a = 1336 ∧ 16 * (60 * u + k) ≤ j ∧ j < 16 * (60 * u + k) + 16 ∨ a = 1337)) ρ (sI (sI ρb 1336 (16 * (60 * u + k) + b1) v) 1337 b1 w) ∧ (∀ m, m < b1 + 1 → mI (sI (sI ρb 1336 (16 * (60 * u + k) + b1) v) 1337 b1 w) 1336 (16 * (60 * u + k) + m) = if wtB us mc rt ρ u k m = true then 1 else 0) ∧ ∀ m, m < b1 + 1 → mI (sI (sI ρb 1336 (16 * (60 * u + k) + b1) v) 1337 b1 w) 1337 m = if wtB us mc rt ρ u k m = true then 0 else mI ρ 1324 (16 * (60 * u + k) + m) := by
      intro v w hv hw
      refine ⟨(hm.wI _ _ _).wI _ _ _, (fr.sI (by omega) _).sI (by omega) _, fun m hm => ?_, fun m hm => ?_⟩
      · rw [I_cl (by decide)]
        by_cases em : m = b1
        · subst em; rw [I_is, hv]
        · rw [I_sl (by omega)]; exact f1 m (by omega)
      · by_cases em : m = b1
        · subst em; rw [I_is, hw]
        · rw [I_sl (by omega), I_cl (by decide)]; exact f2 m (by omega)
    have run48 : ∀ (z : Mem × (Int32 → Mem → Prop)) (K : Int32 × Mem → Prop), K (nI (b1 + 1), mg z.1 (sI (sI ρb 1336 (16 * (60 * u + k) + b1) 0) 1337 b1 (mI ρ 1324 (16 * (60 * u + k) + b1)))) → X_X12_insert_49 G z.2 K 1282 (nI (60 * u + k)) (nI c) (nI b1) 1336 (nI (16 * (60 * u + k) + b1)) 0 (mg z.1 ρb) := fun z K hK => by
      simp (disch := omega) only [X_X12_insert_49, X_X12_insert_84, n16, pk_mul, nI_add, mI_m, mR_m, mJ_m, sI_m, sJ_m, hM.1, hM.2, hm.1, hm.2, lT, lF, tT, tF, eF, pF, zT, m1F, vT, cI, true_and, and_true, true_implies, false_implies, not_false_eq_true, not_true_eq_false, forall_eq, implies_true, I_is, I_cl, I_sl, J_is, J_cl, J_sl, R_is, R_cl, R_sl, mI_sJ, mI_sR, mJ_sI, mJ_sR, mR_sI, mR_sJ, narb0, ev, nI_1]
      exact hK
    by_cases hw : wt us mc rt ρ u k b1
    · have hlt : b1 < mc c := by
        obtain ⟨c', t, k', a1, a2, a3, -⟩ := hw
        rw [(eI (by omega) (by omega)).mp (a2.symm.trans ec)] at a3
        exact a3
      refine ⟨(b1 + 1, sI (sI ρb 1336 (16 * (60 * u + k) + b1) 1) 1337 b1 0), ⟨rfl, st 1 0 (if_pos (dP_t hw)) (if_pos (dP_t hw))⟩, fun z K hK => ?_⟩
      show X_X12_insert_9_s G z.2 1282 (nI (60 * u + k)) (nI c) K (nI b1, mg z.1 ρb)
      simp (disch := omega) only [X_X12_insert_9_s, n16, mI_m, mR_m, mJ_m, sI_m, sJ_m, hM.1, hM.2, hm.1, hm.2, lT, lF, tT, tF, eF, pF, zT, m1F, vT, cI, true_and, and_true, true_implies, false_implies, not_false_eq_true, not_true_eq_false, forall_eq, implies_true, ew']
      refine m_waitsFor hM hm hS' hu h60 ((e _ _ (by decide) (by decide)).trans eu) hk hc1 ec' hlt (fun a b ha hb e1 e2 => ?_) (fun j hj _ => brF (pI (by omega)) ?_) (fun h => absurd ((wt_cg e u k b1).mpr hw) h)
      · rw [e _ _ (by decide) (by decide), e _ _ (by decide) (by decide)] at e1 e2
        exact uq a b ha hb e1 e2
      · simp (disch := omega) only [X_X12_insert_49, X_X12_insert_84, n16, pk_mul, nI_add, mI_m, mR_m, mJ_m, sI_m, sJ_m, hM.1, hM.2, hm.1, hm.2, lT, lF, tT, tF, eF, pF, zT, m1F, vT, cI, true_and, and_true, true_implies, false_implies, not_false_eq_true, not_true_eq_false, forall_eq, implies_true, I_is, I_cl, I_sl, J_is, J_cl, J_sl, R_is, R_cl, R_sl, mI_sJ, mI_sR, mJ_sI, mJ_sR, mR_sI, mR_sJ, narb1, o0F, nI_1]
        exact hK
    · refine ⟨(b1 + 1, sI (sI ρb 1336 (16 * (60 * u + k) + b1) 0) 1337 b1 (mI ρ 1324 (16 * (60 * u + k) + b1))), ⟨rfl, st 0 _ (if_neg (by rw [show wtB us mc rt ρ u k b1 = false from dP_f hw]; decide)) (if_neg (by rw [show wtB us mc rt ρ u k b1 = false from dP_f hw]; decide))⟩, fun z K hK => ?_⟩
      show X_X12_insert_9_s G z.2 1282 (nI (60 * u + k)) (nI c) K (nI b1, mg z.1 ρb)
      by_cases hlt : b1 < mc c
      · simp (disch := omega) only [X_X12_insert_9_s, n16, mI_m, mR_m, mJ_m, sI_m, sJ_m, hM.1, hM.2, hm.1, hm.2, lT, lF, tT, tF, eF, pF, zT, m1F, vT, cI, true_and, and_true, true_implies, false_implies, not_false_eq_true, not_true_eq_false, forall_eq, implies_true, ew']
        refine m_waitsFor hM hm hS' hu h60 ((e _ _ (by decide) (by decide)).trans eu) hk hc1 ec' hlt (fun a b ha hb e1 e2 => ?_) (fun j hj h => absurd ((wt_cg e u k b1).mp h) hw) (fun _ => brT m1_neg ?_)
        · rw [e _ _ (by decide) (by decide), e _ _ (by decide) (by decide)] at e1 e2
          exact uq a b ha hb e1 e2
        · simp (disch := omega) only [X_X12_insert_48, pk_mul, nI_add]
          exact run48 z K hK
      · simp (disch := omega) only [X_X12_insert_9_s, X_X12_insert_48, n16, pk_mul, nI_add, mI_m, mR_m, mJ_m, sI_m, sJ_m, hM.1, hM.2, hm.1, hm.2, lT, lF, tT, tF, eF, pF, zT, m1F, vT, cI, true_and, and_true, true_implies, false_implies, not_false_eq_true, not_true_eq_false, forall_eq, implies_true, ew']
        exact run48 z K hK) 0 (by omega) (0, ρ) ⟨rfl, hm, Eqv.rf, fun m h => by omega, fun m h => by omega⟩
  have hb : b1 = 16 := hb
  subst hb
  refine ⟨ρ9, fun κ1 Q hQ => ?_, hm9, fr9, f1, f2⟩
  have r := run (κ1, Q) (fun K => by
    show X_X12_insert_9_s G Q 1282 (nI (60 * u + k)) (nI c) K (nI 16, mg κ1 ρ9)
    exact brT (by decide) hQ)
  show X_X12_insert G Q 1282 (nI (60 * u + k)) (mg κ1 ρ)
  simp (disch := omega) only [X_X12_insert, X_X12_insert_0, X_X12_insert_9, mI_m, mR_m, mJ_m, sI_m, sJ_m, hM.1, hM.2, hm.1, hm.2, lT, lF, tT, tF, eF, pF, zT, m1F, vT, cI, true_and, and_true, true_implies, false_implies, not_false_eq_true, not_true_eq_false, forall_eq, implies_true, ec]
  exact r
theorem m_ins96 (hM : LyM G) (hm : StM ρ) (hr : r0 ≤ 720) (e26 : mI ρ 1282 26 = nI r0) (hp : p < 240) (ef : mI ρ 1320 p = nI f) {l2 : Int32} {Q : Int32 → Mem → Prop} (h : ∀ K, X_X12_insert_96_s G Q 1282 (nI p) l2 K (nI (cnt (fun r => mI ρ 1305 r) (nI f) r0), nI r0, mg κ1 ρ)) : X_X12_insert_96 G Q 1282 (nI p) l2 0 0 (mg κ1 ρ) := by
  unfold X_X12_insert_96
  refine Lw.nat r0 (fun i x => x = (nI (cnt (fun r => mI ρ 1305 r) (nI f) i), nI i, mg κ1 ρ)) ?_ 0 (by omega) _ rfl
  rintro K' i x hi rfl hk'
  by_cases hlt : i < r0
  · simp (disch := omega) only [X_X12_insert_96_s, X_X12_insert_127, mI_m, mR_m, mJ_m, sI_m, sJ_m, hM.1, hM.2, hm.1, hm.2, lT, lF, tT, tF, eF, pF, zT, m1F, vT, cI, true_and, and_true, true_implies, false_implies, not_false_eq_true, not_true_eq_false, forall_eq, implies_true, e26, ef, nI_1, show (0 : Int32) = nI 0 from rfl, nI_add, Nat.add_zero]
    refine ⟨fun e => hk' _ hlt ?_, fun e => hk' _ hlt ?_⟩
    · show _ = (nI (cnt _ _ i + if mI ρ 1305 i = nI f then 1 else 0), _)
      rw [if_pos e]
    · show _ = (nI (cnt _ _ i + if mI ρ 1305 i = nI f then 1 else 0), _)
      rw [if_neg e]; rfl
  · obtain rfl : i = r0 := by omega
    exact h K'
theorem sum_lt (h : ∀ g, g < 12 → N g ≤ 60) (hf : f < 12) (hN : N f < 60) : sum12 N < 720 := by
  have h0 := h 0 (by decide); have h1 := h 1 (by decide); have h2 := h 2 (by decide); have h3 := h 3 (by decide); have h4 := h 4 (by decide); have h5 := h 5 (by decide)
  have h6 := h 6 (by decide); have h7 := h 7 (by decide); have h8 := h 8 (by decide); have h9 := h 9 (by decide); have h10 := h 10 (by decide); have h11 := h 11 (by decide)
  have hh : f = 0 ∨ f = 1 ∨ f = 2 ∨ f = 3 ∨ f = 4 ∨ f = 5 ∨ f = 6 ∨ f = 7 ∨ f = 8 ∨ f = 9 ∨ f = 10 ∨ f = 11 := by omega
  unfold sum12
  rcases hh with rfl | rfl | rfl | rfl | rfl | rfl | rfl | rfl | rfl | rfl | rfl | rfl <;> omega
/-- the reference's further row, and that it is noted as inserted -/
def apM (ρ : Mem) (p r0 : Nat) (F X Cc : Int32) : Mem := sI (sI (sF (sI (sI (sI (sI ρ 1305 r0 F) 1306 r0 X) 1307 r0 Cc) 1308 r0 1) 1309 (16 * r0) (16 * r0 + 16) (fun j => mI ρ 1337 (j - 16 * r0))) 1282 26 (nI (r0 + 1))) 1335 p 1
theorem m_append (hM : LyM G) (hm : StM ρ) (hr : r0 < 720) (e26 : mI ρ 1282 26 = nI r0) (hp : p < 240) {Cc : Int32} {Q : Int32 → Mem → Prop} (q : X_X12_written G (fun s6 => (bz (1 : Int32) ∧ Q (1 : Int32) s6)) 1282 0 (nI p) 0 (mg κ1 (apM ρ p r0 (mI ρ 1320 p) (mI ρ 1321 p) Cc))) : X_X12_insert_233 G Q 1282 (nI p) 0 (mg κ1 (sI (sI (sI (sI ρ 1305 r0 (mI ρ 1320 p)) 1306 r0 (mI ρ 1321 p)) 1307 r0 Cc) 1308 r0 1)) := by
  have n16 : (16 : Int32) = nI 16 := rfl
  unfold X_X12_insert_233
  obtain ⟨ρa, ea⟩ : ∃ x, x = sI (sI (sI (sI ρ 1305 r0 (mI ρ 1320 p)) 1306 r0 (mI ρ 1321 p)) 1307 r0 Cc) 1308 r0 1 := ⟨_, rfl⟩
  have hma : StM ρa := by rw [ea]; exact (((hm.wI _ _ _).wI _ _ _).wI _ _ _).wI _ _ _
  have ea26 : mI ρa 1282 26 = nI r0 := by rw [ea]; simp (disch := omega) only [I_cl]; exact e26
  have ea37 : ∀ j, mI ρa 1337 j = mI ρ 1337 j := fun j => by rw [ea]; simp (disch := omega) only [I_cl]
  rw [← ea]
  refine Lw.nat 16 (fun i x => x = (nI i, mg κ1 (sF ρa 1309 (16 * r0) (16 * r0 + i) (fun j => mI ρ 1337 (j - 16 * r0))))) ?_ 0 (by omega) _ (by rw [Nat.add_zero, sF_0]; rfl)
  rintro K' i x hi rfl hk'
  have hmi : StM (sF ρa 1309 (16 * r0) (16 * r0 + i) (fun j => mI ρ 1337 (j - 16 * r0))) := hma.wF _ _ _ _
  by_cases hlt : i < 16
  · simp (disch := omega) only [X_X12_insert_233_s, n16, pk_mul, nI_add, mI_m, mR_m, sI_m, hM.1, hM.2, hmi.1, hmi.2, lT, lF, tT, tF, eF, pF, zT, m1F, vT, cI, true_and, and_true, true_implies, false_implies, not_false_eq_true, not_true_eq_false, forall_eq, implies_true, sF_cl, ea26, ea37, nI_1]
    refine hk' _ hlt ?_
    rw [sF_st (by omega) (by show _ = mI ρ 1337 (16 * r0 + i - 16 * r0); congr 1; omega)]
    rfl
  · obtain rfl : i = 16 := by omega
    simp (disch := omega) only [X_X12_insert_233_s, n16, mI_m, mR_m, sI_m, hM.1, hM.2, hmi.1, hmi.2, lT, lF, tT, tF, eF, pF, zT, m1F, vT, cI, true_and, and_true, true_implies, false_implies, not_false_eq_true, not_true_eq_false, forall_eq, implies_true, sF_cl, ea26, narb1, nI_1, mR_sI]
    rw [ea]
    exact q
end INSERT
