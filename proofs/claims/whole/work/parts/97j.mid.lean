/-! while rows are written -/
def wfC (u a k : Nat) : Prop := ¬ (270 ≤ a ∧ a ≤ 274 ∨ a = 1269 ∧ 4 ≤ k ∧ k ≤ 9 ∨ 1271 ≤ a ∧ a ≤ 1274 ∨ ∃ j, j < 60 ∧ a = 537 + 184 * u + 3 * j ∧ (k = 9 ∨ k = 10))
def wfM (a k : Nat) : Prop := ¬ (a = 1282 ∧ (k = 26 ∨ k = 57 ∨ k = 58 ∨ 64 ≤ k ∧ k ≤ 69 ∨ k = 75) ∨ 1305 ≤ a ∧ a ≤ 1309 ∨ 1330 ≤ a ∧ a ≤ 1338)
/-- what stays of the start, and that rows and their rules hold -/
def Mid (n : Nat) (mc rt K : Nat → Nat) (C : Int32 → Int32 → Int32) (u : Nat) (κ0 ρ0 : Mem) (N : Nat → Nat) (r0 : Nat) (κ ρ : Mem) : Prop := (StC κ ∧ StM ρ) ∧ Eqv (wfC u) κ0 κ ∧ Eqv wfM ρ0 ρ ∧ RelR N r0 κ ρ ∧ RowsW n r0 mc rt K ρ ∧ ∀ r, r < r0 → mI ρ 1307 r = C (mI ρ 1305 r) (mI ρ 1306 r)
/-- so many writes so far, and nothing broken -/
def Log (w : Nat) (κ ρ : Mem) : Prop := (mI κ 1269 4 = 0 ∧ mI κ 1269 5 = -1 ∧ mI κ 1269 6 = -1 ∧ mI κ 1269 7 = -1 ∧ mI κ 1269 8 = -1) ∧ (mI ρ 1282 64 = 0 ∧ mI ρ 1282 65 = -1 ∧ mI ρ 1282 66 = -1 ∧ mI ρ 1282 67 = -1 ∧ mI ρ 1282 68 = -1) ∧ mI κ 1269 9 = nI w ∧ mI ρ 1282 69 = nI w ∧ ∀ i, i < w → mI κ 1271 i = mI ρ 1330 i ∧ mI κ 1272 i = mI ρ 1331 i ∧ mI κ 1273 i = mI ρ 1332 i ∧ mI κ 1274 i = mI ρ 1333 i
/-- it was broken off -/
def Brk (u : Nat) (κ0 ρ0 κ ρ : Mem) : Prop := (StC κ ∧ StM ρ) ∧ Eqv (wfC u) κ0 κ ∧ Eqv wfM ρ0 ρ ∧ RelW κ ρ ∧ mI ρ 1282 64 ≠ 0
section MID
variable {G : Lay} {nn sc n r0 r1 w : Nat} {mc rt hc K N N1 us : Nat → Nat} {κ κ' κ0 ρ ρ' ρ0 κ1 ρ1 : Mem} {u k : Nat} {C : Int32 → Int32 → Int32}
theorem wf_S (hs2 : sc = 14 ∨ sc = 275) : ∀ a k, sCc sc a k → u < 4 → wfC u a k := fun a k hh hu => by
  rintro (h | h | h | ⟨j, h1, h2, h3⟩) <;> (simp only [sCc] at hh; omega)
theorem wf_U (hu : u < 4) : ∀ a k, uC a k → wfC u a k := fun a k hh => by
  rintro (h | h | h | ⟨j, h1, h2, h3⟩) <;> (obtain ⟨u', hu', hh | ⟨j', hj', hh⟩⟩ := hh <;> omega)
theorem wf_SM : ∀ a k, sM a k → wfM a k := fun a k hh => by
  rintro (h | h | h) <;> (simp only [sM] at hh; omega)
theorem wf_UM : ∀ a k, uM a k → wfM a k := fun a k hh => by
  rintro (h | h | h) <;> (simp only [uM] at hh; omega)
theorem wfM_u {a k : Nat} (h1 : 1316 ≤ a) (h2 : a ≤ 1325) : wfM a k := by
  rintro (h | h | h) <;> omega
theorem wfM_s {a k : Nat} (h1 : 1283 ≤ a) (h2 : a ≤ 1304) : wfM a k := by
  rintro (h | h | h) <;> omega
theorem Mid.S (h : Mid n mc rt K C u κ0 ρ0 N r0 κ ρ) (hA : RelA nn sc n mc rt hc K N1 r1 us κ0 ρ0) (hu : u < 4) : RelS sc n mc rt hc κ ρ := hA.2.2.2.1.fr (h.2.1.mo fun a k z => wf_S hA.2.2.2.1.s2 a k z hu) (h.2.2.1.mo wf_SM)
theorem Mid.U (h : Mid n mc rt K C u κ0 ρ0 N r0 κ ρ) (hA : RelA nn sc n mc rt hc K N1 r1 us κ0 ρ0) (hu : u < 4) : RelU us κ ρ := hA.2.2.2.2.2.2.2.1.fr (h.2.1.mo (wf_U hu)) (h.2.2.1.mo wf_UM)
theorem Log.W (h : Log w κ ρ) (hw : w ≤ 120) : RelW κ ρ := by
  obtain ⟨⟨a1, a2, a3, a4, a5⟩, ⟨b1, b2, b3, b4, b5⟩, c1, c2, c3⟩ := h
  exact ⟨by rw [a1, b1], by rw [a2, b2], by rw [a3, b3], by rw [a4, b4], by rw [a5, b5], w, hw, c1, c2, c3⟩
theorem Log.fr (h : Log w κ ρ) (e1 : Eqv wC κ κ') (e2 : Eqv wM ρ ρ') : Log w κ' ρ' := by
  obtain ⟨⟨a1, a2, a3, a4, a5⟩, ⟨b1, b2, b3, b4, b5⟩, c1, c2, c3⟩ := h
  have c : ∀ k, 4 ≤ k → k ≤ 9 → mI κ' 1269 k = mI κ 1269 k := fun k x y => e1.I (Or.inl ⟨rfl, x, y⟩)
  have m : ∀ k, 64 ≤ k → k ≤ 69 → mI ρ' 1282 k = mI ρ 1282 k := fun k x y => e2.I (Or.inl ⟨rfl, x, y⟩)
  have c' : ∀ a k, 1271 ≤ a → a ≤ 1274 → mI κ' a k = mI κ a k := fun a k x y => e1.I (Or.inr ⟨x, y⟩)
  have m' : ∀ a k, 1330 ≤ a → a ≤ 1333 → mI ρ' a k = mI ρ a k := fun a k x y => e2.I (Or.inr ⟨x, y⟩)
  refine ⟨⟨?_, ?_, ?_, ?_, ?_⟩, ⟨?_, ?_, ?_, ?_, ?_⟩, ?_, ?_, fun i hi => ?_⟩
  iterate 5 (rw [c _ (by decide) (by decide)]; first | exact a1 | exact a2 | exact a3 | exact a4 | exact a5)
  iterate 5 (rw [m _ (by decide) (by decide)]; first | exact b1 | exact b2 | exact b3 | exact b4 | exact b5)
  · rw [c _ (by decide) (by decide)]; exact c1
  · rw [m _ (by decide) (by decide)]; exact c2
  · rw [c' 1271 _ (by decide) (by decide), c' 1272 _ (by decide) (by decide), c' 1273 _ (by decide) (by decide), c' 1274 _ (by decide) (by decide), m' 1330 _ (by decide) (by decide), m' 1331 _ (by decide) (by decide), m' 1332 _ (by decide) (by decide), m' 1333 _ (by decide) (by decide)]
    exact c3 i hi
def nwC (a k : Nat) : Prop := ¬ (a = 1269 ∧ k = 9 ∨ 1271 ≤ a ∧ a ≤ 1274)
def nwM (a k : Nat) : Prop := ¬ (a = 1282 ∧ k = 69 ∨ 1330 ≤ a ∧ a ≤ 1333)
/-- a write is noted -/
theorem j_note (hG : Ly G) (hC : StC κ) (hm : StM ρ) (hl : Log w κ ρ) (hw : w < 120) (hu : u < 4) (hk : k < 60) (t3 : mI κ (537 + 184 * u + 3 * k) 3 = mI ρ 1321 (60 * u + k)) (t4 : mI κ (537 + 184 * u + 3 * k) 4 = mI ρ 1322 (60 * u + k)) (how col : Int32) :
    ∃ κ' ρ', RunC0 (fun Q σ => X_X10_noteWrite G Q 1269 how (537 + 184 * u + 3 * k) col σ) κ κ' ∧ RunM0 (fun Q σ => X_X12_written G Q 1282 how (nI (60 * u + k)) col σ) ρ ρ' ∧ StC κ' ∧ StM ρ' ∧ Eqv nwC κ κ' ∧ Eqv nwM ρ ρ' ∧ Log (w + 1) κ' ρ' := by
  have hL := hG.1
  have hM := hG.2.2.2
  obtain ⟨⟨a1, a2, a3, a4, a5⟩, ⟨b1, b2, b3, b4, b5⟩, c1, c2, c3⟩ := hl
  have n120 : Int32.ofNat 120 = nI 120 := rfl
  refine ⟨sI (sI (sI (sI (sI κ 1271 w how) 1272 w (mI ρ 1322 (60 * u + k))) 1273 w (mI ρ 1321 (60 * u + k))) 1274 w col) 1269 9 (nI (w + 1)), sI (sI (sI (sI (sI ρ 1330 w how) 1331 w (mI ρ 1322 (60 * u + k))) 1332 w (mI ρ 1321 (60 * u + k))) 1333 w col) 1282 69 (nI (w + 1)), fun ρ1 Q hQ => ?_, fun κ1 Q hQ => ?_, ((((hC.wI _ _ _).wI _ _ _).wI _ _ _).wI _ _ _).wI _ _ _, ((((hm.wI _ _ _).wI _ _ _).wI _ _ _).wI _ _ _).wI _ _ _, ?_, ?_, ?_⟩
  · show X_X10_noteWrite G Q 1269 how (537 + 184 * u + 3 * k) col (mg κ ρ1)
    simp (disch := omega) only [X_X10_noteWrite_68, X_X10_noteWrite_0, X_X10_noteWrite, mI_c, mR_c, sI_c, hL.1, hL.2.2, hC.1, lT, lF, tT, tF, eF, pF, zT, m1F, vT, cI, true_and, and_true, true_implies, false_implies, not_false_eq_true, not_true_eq_false, forall_eq, implies_true, c1, n120, I_is, I_cl, I_sl, J_is, J_cl, J_sl, R_is, R_cl, R_sl, mI_sJ, mI_sR, mJ_sI, mJ_sR, mR_sI, mR_sJ, t3, t4, nI_1]
    exact hQ
  · show X_X12_written G Q 1282 how (nI (60 * u + k)) col (mg κ1 ρ)
    simp (disch := omega) only [X_X12_written_0, X_X12_written, mI_m, mR_m, sI_m, hM.1, hM.2, hm.1, hm.2, lT, lF, tT, tF, eF, pF, zT, m1F, vT, cI, true_and, and_true, true_implies, false_implies, not_false_eq_true, not_true_eq_false, forall_eq, implies_true, c2, I_is, I_cl, I_sl, J_is, J_cl, J_sl, R_is, R_cl, R_sl, mI_sJ, mI_sR, mJ_sI, mJ_sR, mR_sI, mR_sJ, nI_1]
    exact hQ
  · refine (((((Eqv.wI ?_ _).sI ?_ _).sI ?_ _).sI ?_ _).sI ?_ _) <;> exact fun h => h (by omega)
  · refine (((((Eqv.wI ?_ _).sI ?_ _).sI ?_ _).sI ?_ _).sI ?_ _) <;> exact fun h => h (by omega)
  · refine ⟨?_, ?_, I_is _ _ _ _, I_is _ _ _ _, fun i hi => ?_⟩
    · simp (disch := omega) only [I_cl, I_sl]; exact ⟨a1, a2, a3, a4, a5⟩
    · simp (disch := omega) only [I_cl, I_sl]; exact ⟨b1, b2, b3, b4, b5⟩
    · by_cases e : i = w
      · subst e
        simp (disch := omega) only [I_is, I_cl, and_self]
      · simp (disch := omega) only [I_cl, I_sl]
        exact c3 i (by omega)
/-- the class breaks off -/
def brkC (κ : Mem) (T : Nat) (out m r : Int32) : Mem := sI (sI (sI (sI (sI κ 1269 4 out) 1269 5 (mI κ T 4)) 1269 6 (mI κ T 3)) 1269 7 m) 1269 8 r
theorem c_breakOff (hL : LyC G) {Q : Int32 → Mem → Prop} (hu : u < 4) (hk : k < 60) {out m r : Int32} (q : Q 0 (mg (brkC κ (537 + 184 * u + 3 * k) out m r) ρ1)) : X_X10_breakOff G Q 1269 out (537 + 184 * u + 3 * k) m r (mg κ ρ1) := by
  have e0 : (537 + 184 * u + 3 * k = 0) = False := eq_false (by omega)
  simp (disch := omega) only [X_X10_breakOff_25, X_X10_breakOff_0, X_X10_breakOff, mI_c, sI_c, hL.1, hL.2.2, lT, lF, tT, tF, eF, pF, zT, m1F, vT, cI, true_and, and_true, true_implies, false_implies, not_false_eq_true, not_true_eq_false, forall_eq, implies_true, e0, I_is, I_cl, I_sl, J_is, J_cl, J_sl, R_is, R_cl, R_sl, mI_sJ, mI_sR, mJ_sI, mJ_sR, mR_sI, mR_sJ, bzT0]
  exact q
/-- the reference ends -/
def endM (ρ : Mem) (p : Nat) (how : Int32) : Mem := sI (sI (sI ρ 1282 64 how) 1282 65 (mI ρ 1322 p)) 1282 66 (mI ρ 1321 p)
theorem m_ends (hM : LyM G) (hm : StM ρ) {Q : Int32 → Mem → Prop} {p : Nat} {how : Int32} (hp : p < 240) (h1 : how ≠ 1) (q : Q 0 (mg κ1 (endM ρ p how))) : X_X12_ends G Q 1282 how (nI p) (mg κ1 ρ) := by
  have e1 : (how = 1) = False := eq_false h1
  simp (disch := omega) only [X_X12_ends_46, X_X12_ends_0, X_X12_ends, mI_m, mR_m, sI_m, hM.1, hM.2, hm.1, hm.2, lT, lF, tT, tF, eF, pF, zT, m1F, vT, cI, true_and, and_true, true_implies, false_implies, not_false_eq_true, not_true_eq_false, forall_eq, implies_true, I_is, I_cl, I_sl, J_is, J_cl, J_sl, R_is, R_cl, R_sl, mI_sJ, mI_sR, mJ_sI, mJ_sR, mR_sI, mR_sJ, e1, bzT0]
  exact q
theorem m_ends1 (hM : LyM G) (hm : StM ρ) {Q : Int32 → Mem → Prop} {p : Nat} (hp : p < 240) (q : Q 0 (mg κ1 (sI (sI (endM ρ p 1) 1282 67 (mI ρ 1282 57)) 1282 68 (mI ρ 1282 58)))) : X_X12_ends G Q 1282 1 (nI p) (mg κ1 ρ) := by
  simp (disch := omega) only [X_X12_ends_46, X_X12_ends_0, X_X12_ends, mI_m, mR_m, sI_m, hM.1, hM.2, hm.1, hm.2, lT, lF, tT, tF, eF, pF, zT, m1F, vT, cI, true_and, and_true, true_implies, false_implies, not_false_eq_true, not_true_eq_false, forall_eq, implies_true, I_is, I_cl, I_sl, J_is, J_cl, J_sl, R_is, R_cl, R_sl, mI_sJ, mI_sR, mJ_sI, mJ_sR, mR_sI, mR_sJ, bzT0]
  exact q
theorem Brk.ends (hC : StC κ) (hm : StM ρ) (e1 : Eqv (wfC u) κ0 κ) (e2 : Eqv wfM ρ0 ρ) (hl : Log w κ ρ) (hw : w ≤ 120) (t3 : mI κ (537 + 184 * u + 3 * k) 3 = mI ρ 1321 (60 * u + k)) (t4 : mI κ (537 + 184 * u + 3 * k) 4 = mI ρ 1322 (60 * u + k)) {how : Int32} (h0 : how ≠ 0) : Brk u κ0 ρ0 (brkC κ (537 + 184 * u + 3 * k) how (-1) (-1)) (endM ρ (60 * u + k) how) := by
  obtain ⟨⟨a1, a2, a3, a4, a5⟩, ⟨b1, b2, b3, b4, b5⟩, c1, c2, c3⟩ := hl
  unfold brkC endM
  refine ⟨⟨((((hC.wI _ _ _).wI _ _ _).wI _ _ _).wI _ _ _).wI _ _ _, ((hm.wI _ _ _).wI _ _ _).wI _ _ _⟩, ?_, ?_, ⟨?_, ?_, ?_, ?_, ?_, w, hw, ?_, ?_, fun i hi => ?_⟩, ?_⟩
  · refine ((((e1.sI ?_ _).sI ?_ _).sI ?_ _).sI ?_ _).sI ?_ _ <;> exact fun h => h (Or.inr (Or.inl ⟨rfl, by decide, by decide⟩))
  · refine ((e2.sI ?_ _).sI ?_ _).sI ?_ _ <;> exact fun h => h (Or.inl ⟨rfl, by omega⟩)
  · simp (disch := omega) only [I_is, I_cl, I_sl]
  · simp (disch := omega) only [I_is, I_cl, I_sl]; exact t4
  · simp (disch := omega) only [I_is, I_cl, I_sl]; exact t3
  · simp (disch := omega) only [I_is, I_cl, I_sl]; exact b4.symm
  · simp (disch := omega) only [I_is, I_cl, I_sl]; exact b5.symm
  · simp (disch := omega) only [I_is, I_cl, I_sl]; exact c1
  · simp (disch := omega) only [I_is, I_cl, I_sl]; exact c2
  · simp (disch := omega) only [I_is, I_cl, I_sl]; exact c3 i hi
  · simp (disch := omega) only [I_is, I_cl, I_sl]; exact h0
theorem Brk.ends1 (hC : StC κ) (hm : StM ρ) (e1 : Eqv (wfC u) κ0 κ) (e2 : Eqv wfM ρ0 ρ) (hl : Log w κ ρ) (hw : w ≤ 120) (t3 : mI κ (537 + 184 * u + 3 * k) 3 = mI ρ 1321 (60 * u + k)) (t4 : mI κ (537 + 184 * u + 3 * k) 4 = mI ρ 1322 (60 * u + k)) : Brk u κ0 ρ0 (brkC κ (537 + 184 * u + 3 * k) 1 (mI ρ 1282 57) (mI ρ 1282 58)) (sI (sI (endM ρ (60 * u + k) 1) 1282 67 (mI ρ 1282 57)) 1282 68 (mI ρ 1282 58)) := by
  obtain ⟨⟨a1, a2, a3, a4, a5⟩, ⟨b1, b2, b3, b4, b5⟩, c1, c2, c3⟩ := hl
  unfold brkC endM
  refine ⟨⟨((((hC.wI _ _ _).wI _ _ _).wI _ _ _).wI _ _ _).wI _ _ _, ((((hm.wI _ _ _).wI _ _ _).wI _ _ _).wI _ _ _).wI _ _ _⟩, ?_, ?_, ⟨?_, ?_, ?_, ?_, ?_, w, hw, ?_, ?_, fun i hi => ?_⟩, ?_⟩
  · refine ((((e1.sI ?_ _).sI ?_ _).sI ?_ _).sI ?_ _).sI ?_ _ <;> exact fun h => h (Or.inr (Or.inl ⟨rfl, by decide, by decide⟩))
  · refine ((((e2.sI ?_ _).sI ?_ _).sI ?_ _).sI ?_ _).sI ?_ _ <;> exact fun h => h (Or.inl ⟨rfl, by omega⟩)
  · simp (disch := omega) only [I_is, I_cl, I_sl]
  · simp (disch := omega) only [I_is, I_cl, I_sl]; exact t4
  · simp (disch := omega) only [I_is, I_cl, I_sl]; exact t3
  · simp (disch := omega) only [I_is, I_cl, I_sl]
  · simp (disch := omega) only [I_is, I_cl, I_sl]
  · simp (disch := omega) only [I_is, I_cl, I_sl]; exact c1
  · simp (disch := omega) only [I_is, I_cl, I_sl]; exact c2
  · simp (disch := omega) only [I_is, I_cl, I_sl]; exact c3 i hi
  · simp (disch := omega) only [I_is, I_cl, I_sl]; decide
end MID
