/-! scan: all tokens of the class -/
section SCAN2
variable {G : Lay} {κ κ' ρ ρ' κ1 ρ1 : Mem} {B : Nat → Nat} {z p t : Nat}
def scC (a k : Nat) : Prop := ¬ (a = 3 ∧ 3 ≤ k ∧ k ≤ 6 ∨ 4 ≤ a ∧ a ≤ 6)
theorem TkC.fr {j : Nat} (h : TkC κ B z j p) (e : ∀ a, 4 ≤ a → a ≤ 6 → mI κ' a j = mI κ a j ∧ mJ κ' a j = mJ κ a j) : TkC κ' B z j p := by
  obtain ⟨h1, h2, h3, h4, h5⟩ := h
  refine ⟨?_, ?_, fun x => ?_, fun x => ?_, fun x => ?_⟩
  · rw [(e 5 (by decide) (by decide)).1]; exact h1
  · rw [(e 4 (by decide) (by decide)).1]; exact h2
  · rw [(e 6 (by decide) (by decide)).2]; exact h3 x
  · rw [(e 6 (by decide) (by decide)).2]; exact h4 x
  · rw [(e 6 (by decide) (by decide)).2]; exact h5 x
theorem c_scanL (hL : LyC G) : ∀ d f n t κ, z - f = d → n ≤ f → f ≤ z → t ≤ n → StC κ → BtC κ B z → mI κ 3 3 = nI t → nx B z f = pos B z t → (∀ j, j < t → pos B z j < z ∧ TkC κ B z j (pos B z j)) → ∃ κ' T, (∀ ρ1 (Q : Mem → Prop), Q (mg κ' ρ1) → Lw (X_X8_scan_25_s G Q 3 2 (nI z)) (nI f, nI n, mg κ ρ1)) ∧ StC κ' ∧ Eqv (fun a k => ¬ (a = 3 ∧ k = 3 ∨ 4 ≤ a ∧ a ≤ 6)) κ κ' ∧ TokC κ' B z T := by
  intro d
  induction d using Nat.strongRecOn with
  | _ d ih =>
    intro f n t κ hd hn hf ht hC hB e3 hp hj
    have hz := hB.1
    by_cases hfz : f = z
    · subst hfz
      have ep : pos B f t = f := by rw [← hp]; exact run_ge (Nat.le_refl _)
      refine ⟨sI (sI κ 4 t 0) 5 t (nI f), t, fun ρ1 Q hQ => Lw.fin (fun K => ?_), (hC.wI _ _ _).wI _ _ _, (Eqv.wI (fun h => h (by omega)) _).sI (fun h => h (by omega)) _, ⟨?_, by omega, hz⟩, ep, fun j hj2 => (hj j hj2).1, fun j hj2 => ?_⟩
      · have r : X_X8_scan_76 G Q 3 (nI f) (mg κ ρ1) := by
          simp (disch := omega) only [X_X8_scan_76, mI_c, mR_c, mJ_c, sI_c, sJ_c, sR_c, hL.1, hL.2.1, hL.2.2, hC.1, hC.2.1, hC.2.2.1, lT, lF, tT, tF, eF, pF, zT, m1F, vT, cI, true_and, and_true, true_implies, false_implies, not_false_eq_true, not_true_eq_false, forall_eq, implies_true, e3, I_is, I_cl, I_sl, J_is, J_cl, J_sl, R_is, R_cl, R_sl, mI_sJ, mI_sR, mJ_sI, mJ_sR, mR_sI, mR_sJ]
          exact hQ
        by_cases hnf : f ≤ n
        · exact brT ((lI (by omega) (by omega)).mpr hnf) r
        · exact brF (fun h => hnf ((lI (by omega) (by omega)).mp h)) (brT ((lI (by omega) (by omega)).mpr (Nat.le_refl _)) r)
      · rw [I_cl (by decide), I_cl (by decide)]; exact e3
      · by_cases e : j = t
        · subst e
          rw [ep]
          have k0 : tkd B f f = 0 := by unfold tkd; rw [if_pos (Nat.le_refl _)]
          refine ⟨I_is _ _ _ _, ?_, fun h => by omega, fun h => by omega, fun h => by omega⟩
          rw [I_cl (by decide), I_is]; unfold srt; rw [k0]; rfl
        · refine (hj j (by omega)).2.fr (fun a a1 a2 => ⟨?_, rfl⟩)
          rw [I_sl e, I_sl e]
    · have hlt : f < z := by omega
      obtain ⟨eb, hb⟩ := hB.2 f hlt
      by_cases hbl : blk (B f) = true
      · have hp2 : nx B z (f + 1) = pos B z t := by rw [← hp]; exact (run_t hlt hbl).symm
        obtain ⟨κ', T, r, c1, c2, c3⟩ := ih (z - (f + 1)) (by omega) (f + 1) (n + 1) t κ rfl (by omega) (by omega) (by omega) hC hB e3 hp2 hj
        refine ⟨κ', T, fun ρ1 Q hQ => Lw.stp (fun K hK => ?_) (r ρ1 Q hQ), c1, c2, c3⟩
        simp (disch := omega) only [X_X8_scan_25_s, X_X8_scan_70, hL.1, mI_c, lT, lF, tT, tF, eF, pF, zT, m1F, vT, cI, true_and, and_true, true_implies, false_implies, not_false_eq_true, not_true_eq_false, forall_eq, implies_true, eb, nI_1]
        exact c_isBlank hb (fun _ => br1 hK) (fun h => absurd hbl h)
      · have ef : nx B z f = f := run_f hbl
        have hp0 : pos B z t = f := by rw [← hp, ef]
        obtain ⟨κ2, rk, kC, kE, k3, kT⟩ := c_keep hL hC hB hlt (by omega : t ≤ 3000) e3
        obtain ⟨t1, t2⟩ := eTk_ok (B := B) hlt
        have hp2 : nx B z (eTk B z f) = pos B z (t + 1) := by
          show _ = if pos B z t < z then nx B z (eTk B z (pos B z t)) else z
          rw [hp0, if_pos hlt]
        have hj2 : ∀ j, j < t + 1 → pos B z j < z ∧ TkC κ2 B z j (pos B z j) := fun j h => by
          by_cases e : j = t
          · subst e; rw [hp0]; exact ⟨hlt, kT⟩
          · refine ⟨(hj j (by omega)).1, (hj j (by omega)).2.fr (fun a a1 a2 => ?_)⟩
            have x := kE a j (by unfold kpC; omega)
            exact ⟨x.1, x.2.1⟩
        have hB2 : BtC κ2 B z := hB.fr (fun k => kE.I (by unfold kpC; omega))
        obtain ⟨κ', T, r, c1, c2, c3⟩ := ih (z - eTk B z f) (by omega) (eTk B z f) (n + 1) (t + 1) κ2 rfl (by omega) t2 (by omega) kC hB2 k3 hp2 hj2
        refine ⟨κ', T, fun ρ1 Q hQ => Lw.stp (fun K hK => ?_) (r ρ1 Q hQ), c1, (kE.mo fun a k h => ?_).tr c2, c3⟩
        · simp (disch := omega) only [X_X8_scan_25_s, X_X8_scan_70, hL.1, mI_c, lT, lF, tT, tF, eF, pF, zT, m1F, vT, cI, true_and, and_true, true_implies, false_implies, not_false_eq_true, not_true_eq_false, forall_eq, implies_true, eb, nI_1]
          refine c_isBlank hb (fun h => absurd h hbl) (fun _ => br0 ?_)
          refine c_endOfToken hL hB hlt ?_
          exact rk ρ1 _ hK
        · unfold kpC; omega
theorem c_scan (hL : LyC G) (hC : StC κ) (hB : BtC κ B z) : ∃ κ' T, RunC0 (fun Q σ => X_X8_scan G Q 3 2 (nI z) σ) κ κ' ∧ StC κ' ∧ Eqv scC κ κ' ∧ TokC κ' B z T ∧ mI κ' 3 4 = nI 0 ∧ mI κ' 3 5 = 0 ∧ mI κ' 3 6 = -1 := by
  have hB2 : BtC (sI (sI (sI (sI κ 3 5 0) 3 6 (-1)) 3 4 0) 3 3 0) B z := hB.fr (fun k => by simp (disch := omega) only [I_cl])
  obtain ⟨κ', T, r, c1, c2, c3⟩ := c_scanL (B := B) (z := z) hL (z - 0) 0 0 0 (sI (sI (sI (sI κ 3 5 0) 3 6 (-1)) 3 4 0) 3 3 0) rfl (Nat.le_refl _) (Nat.zero_le _) (Nat.le_refl _) ((((hC.wI _ _ _).wI _ _ _).wI _ _ _).wI _ _ _) hB2 (I_is _ _ _ _) rfl (fun j h => by omega)
  refine ⟨κ', T, fun ρ1 Q hQ => ?_, c1, ?_, c3, ?_, ?_, ?_⟩
  · show X_X8_scan G Q 3 2 (nI z) (mg κ ρ1)
    simp (disch := omega) only [X_X8_scan, X_X8_scan_0, X_X8_scan_25, mI_c, mR_c, mJ_c, sI_c, sJ_c, sR_c, hL.1, hL.2.1, hL.2.2, hC.1, hC.2.1, hC.2.2.1, lT, lF, tT, tF, eF, pF, zT, m1F, vT, cI, true_and, and_true, true_implies, false_implies, not_false_eq_true, not_true_eq_false, forall_eq, implies_true]
    exact r ρ1 Q hQ
  · refine Eqv.tr ((((Eqv.wI ?_ _).sI ?_ _).sI ?_ _).sI ?_ _) (c2.mo fun a k h => by unfold scC at h; omega)
    all_goals exact fun h => h (by omega)
  · rw [c2.I (fun h => by omega)]; simp (disch := omega) only [I_is, I_cl, I_sl, J_is, J_cl, J_sl, R_is, R_cl, R_sl, mI_sJ, mI_sR, mJ_sI, mJ_sR, mR_sI, mR_sJ]; rfl
  · rw [c2.I (fun h => by omega)]; simp (disch := omega) only [I_is, I_cl, I_sl, J_is, J_cl, J_sl, R_is, R_cl, R_sl, mI_sJ, mI_sR, mJ_sI, mJ_sR, mR_sI, mR_sJ]
  · rw [c2.I (fun h => by omega)]; simp (disch := omega) only [I_is, I_cl, I_sl, J_is, J_cl, J_sl, R_is, R_cl, R_sl, mI_sJ, mI_sR, mJ_sI, mJ_sR, mR_sI, mR_sJ]
end SCAN2
