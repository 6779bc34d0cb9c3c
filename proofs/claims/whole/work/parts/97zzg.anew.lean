/-! beginAnew; readClasses as a whole -/
section ANEW
variable {G : Lay} {κ κ' ρ ρ' : Mem} {sd z T : Nat} {B : Nat → Nat}
theorem c_beginAnew (hL : LyC G) (hC : StC κ) : ∃ κ', RunC0 (fun Q σ => X_X11_beginAnew G Q 1 σ) κ κ' ∧ StC κ' ∧ Eqv (fun a k => ¬ ((a = 270 ∨ a = 531) ∧ k < 12 ∨ (a = 533 ∨ a = 717 ∨ a = 901 ∨ a = 1085) ∧ k = 4 ∨ a = 1 ∧ k = 12)) κ κ' ∧ (∀ f, f < 12 → mI κ' 270 f = 0 ∧ mI κ' 531 f = 0) ∧ (∀ u, u < 4 → mI κ' (533 + 184 * u) 4 = 0) ∧ mI κ' 1 12 = 0 := by
  have n12 : (12 : Int32) = nI 12 := rfl
  have n4 : (4 : Int32) = nI 4 := rfl
  obtain ⟨⟨b1, κa⟩, ⟨hb, hCa, fra, fa⟩, run⟩ := Lw.run (ι := Mem × (Mem → Prop)) (fun z => X_X5_clear_2_s G z.2 13) (fun (b : Nat × Mem) z => (nI b.1, mg b.2 z.1)) 12 (fun i b => b.1 = i ∧ StC b.2 ∧ Eqv (fun a k => ¬ (a = 270 ∧ k < 12)) κ b.2 ∧ ∀ j, j < i → mI b.2 270 j = 0) (by
    rintro i ⟨b1, κb⟩ hi ⟨hb, hC, fr, ff⟩
    have hb : b1 = i := hb
    subst hb
    have hC : StC κb := hC
    have fr : Eqv _ κ κb := fr
    have ff : ∀ j, j < b1 → mI κb 270 j = 0 := ff
    refine ⟨(b1 + 1, sI κb 270 b1 0), ⟨rfl, hC.wI _ _ _, fr.sI (fun h => h (by omega)) _, fun j hj => ?_⟩, fun z K hK => ?_⟩
    · show mI (sI κb _ _ _) 270 j = _
      by_cases e : j = b1
      · subst e; simp (disch := omega) only [I_is, I_cl, I_sl, J_is, J_cl, J_sl, R_is, R_cl, R_sl, mI_sJ, mI_sR, mJ_sI, mJ_sR, mR_sI, mR_sJ]
      · simp (disch := omega) only [I_is, I_cl, I_sl, J_is, J_cl, J_sl, R_is, R_cl, R_sl, mI_sJ, mI_sR, mJ_sI, mJ_sR, mR_sI, mR_sJ]; exact ff j (by omega)
    · show X_X5_clear_2_s G z.2 13 K (nI b1, mg κb z.1)
      simp (disch := omega) only [X_X5_clear_2_s, mI_c, mR_c, mJ_c, sI_c, sJ_c, sR_c, hL.1, hL.2.1, hL.2.2, hC.1, hC.2.1, hC.2.2.1, n12, nI_1, lT, lF, tT, tF, eF, pF, zT, m1F, vT, cI, true_and, and_true, true_implies, false_implies, not_false_eq_true, not_true_eq_false, forall_eq, implies_true, I_is, I_cl, I_sl, J_is, J_cl, J_sl, R_is, R_cl, R_sl, mI_sJ, mI_sR, mJ_sI, mJ_sR, mR_sI, mR_sJ]
      exact hK) 0 (Nat.zero_le _) (0, κ) ⟨rfl, hC, Eqv.rf, fun j h => by omega⟩
  have hb : b1 = 12 := hb
  subst hb
  have hCa : StC κa := hCa
  have fra : Eqv _ κ κa := fra
  have fa : ∀ j, j < 12 → mI κa 270 j = 0 := fa
  obtain ⟨⟨b2, κc⟩, ⟨hb, hCc, frc, fc⟩, run2⟩ := Lw.run (ι := Mem × (Mem → Prop)) (fun z => X_X11_beginAnew_9_s G z.2 1) (fun (b : Nat × Mem) z => (nI b.1, mg b.2 z.1)) 4 (fun i b => b.1 = i ∧ StC b.2 ∧ Eqv (fun a k => ¬ ((a = 533 ∨ a = 717 ∨ a = 901 ∨ a = 1085) ∧ k = 4)) κa b.2 ∧ ∀ j, j < i → mI b.2 (533 + 184 * j) 4 = 0) (by
    rintro i ⟨b1, κb⟩ hi ⟨hb, hC, fr, ff⟩
    have hb : b1 = i := hb
    subst hb
    have hC : StC κb := hC
    have fr : Eqv _ κa κb := fr
    have ff : ∀ j, j < b1 → mI κb (533 + 184 * j) 4 = 0 := ff
    refine ⟨(b1 + 1, sI κb (533 + 184 * b1) 4 0), ⟨rfl, hC.wI _ _ _, fr.sI (fun h => h (by omega)) _, fun j hj => ?_⟩, fun z K hK => ?_⟩
    · show mI (sI κb _ _ _) (533 + 184 * j) 4 = _
      by_cases e : j = b1
      · subst e; simp (disch := omega) only [I_is, I_cl, I_sl, J_is, J_cl, J_sl, R_is, R_cl, R_sl, mI_sJ, mI_sR, mJ_sI, mJ_sR, mR_sI, mR_sJ]
      · simp (disch := omega) only [I_is, I_cl, I_sl, J_is, J_cl, J_sl, R_is, R_cl, R_sl, mI_sJ, mI_sR, mJ_sI, mJ_sR, mR_sI, mR_sJ]; exact ff j (by omega)
    · show X_X11_beginAnew_9_s G z.2 1 K (nI b1, mg κb z.1)
      simp (disch := omega) only [X_X11_beginAnew_9_s, mI_c, mR_c, mJ_c, sI_c, sJ_c, sR_c, hL.1, hL.2.1, hL.2.2, hC.1, hC.2.1, hC.2.2.1, n4, nI_1, bzT0, lT, lF, tT, tF, eF, pF, zT, m1F, vT, cI, true_and, and_true, true_implies, false_implies, not_false_eq_true, not_true_eq_false, forall_eq, implies_true, I_is, I_cl, I_sl, J_is, J_cl, J_sl, R_is, R_cl, R_sl, mI_sJ, mI_sR, mJ_sI, mJ_sR, mR_sI, mR_sJ]
      exact hK) 0 (Nat.zero_le _) (0, κa) ⟨rfl, hCa, Eqv.rf, fun j h => by omega⟩
  have hb : b2 = 4 := hb
  subst hb
  have hCc : StC κc := hCc
  have frc : Eqv _ κa κc := frc
  have fc : ∀ j, j < 4 → mI κc (533 + 184 * j) 4 = 0 := fc
  obtain ⟨⟨b3, κd⟩, ⟨hb, hCd, frd, fd⟩, run3⟩ := Lw.run (ι := Mem × (Mem → Prop)) (fun z => X_X11_beginAnew_32_s G z.2 1) (fun (b : Nat × Mem) z => (nI b.1, mg b.2 z.1)) 12 (fun i b => b.1 = i ∧ StC b.2 ∧ Eqv (fun a k => ¬ (a = 531 ∧ k < 12)) κc b.2 ∧ ∀ j, j < i → mI b.2 531 j = 0) (by
    rintro i ⟨b1, κb⟩ hi ⟨hb, hC, fr, ff⟩
    have hb : b1 = i := hb
    subst hb
    have hC : StC κb := hC
    have fr : Eqv _ κc κb := fr
    have ff : ∀ j, j < b1 → mI κb 531 j = 0 := ff
    refine ⟨(b1 + 1, sI κb 531 b1 0), ⟨rfl, hC.wI _ _ _, fr.sI (fun h => h (by omega)) _, fun j hj => ?_⟩, fun z K hK => ?_⟩
    · show mI (sI κb _ _ _) 531 j = _
      by_cases e : j = b1
      · subst e; simp (disch := omega) only [I_is, I_cl, I_sl, J_is, J_cl, J_sl, R_is, R_cl, R_sl, mI_sJ, mI_sR, mJ_sI, mJ_sR, mR_sI, mR_sJ]
      · simp (disch := omega) only [I_is, I_cl, I_sl, J_is, J_cl, J_sl, R_is, R_cl, R_sl, mI_sJ, mI_sR, mJ_sI, mJ_sR, mR_sI, mR_sJ]; exact ff j (by omega)
    · show X_X11_beginAnew_32_s G z.2 1 K (nI b1, mg κb z.1)
      simp (disch := omega) only [X_X11_beginAnew_32_s, mI_c, mR_c, mJ_c, sI_c, sJ_c, sR_c, hL.1, hL.2.1, hL.2.2, hC.1, hC.2.1, hC.2.2.1, n12, nI_1, lT, lF, tT, tF, eF, pF, zT, m1F, vT, cI, true_and, and_true, true_implies, false_implies, not_false_eq_true, not_true_eq_false, forall_eq, implies_true, I_is, I_cl, I_sl, J_is, J_cl, J_sl, R_is, R_cl, R_sl, mI_sJ, mI_sR, mJ_sI, mJ_sR, mR_sI, mR_sJ]
      exact hK) 0 (Nat.zero_le _) (0, κc) ⟨rfl, hCc, Eqv.rf, fun j h => by omega⟩
  have hb : b3 = 12 := hb
  subst hb
  have hCd : StC κd := hCd
  have frd : Eqv _ κc κd := frd
  have fd : ∀ j, j < 12 → mI κd 531 j = 0 := fd
  refine ⟨sI κd 1 12 0, fun ρ1 Q hQ => ?_, hCd.wI _ _ _, (((fra.mo fun a k hh => ?_).tr (frc.mo fun a k hh => ?_)).tr (frd.mo fun a k hh => ?_)).sI (fun h => h (by omega)) _, fun f hf => ⟨?_, ?_⟩, fun u hu => ?_, I_is _ _ _ _⟩
  · simp (disch := omega) only [X_X11_beginAnew, X_X11_beginAnew_0, X_X5_clear, X_X5_clear_0, mI_c, mR_c, mJ_c, sI_c, sJ_c, sR_c, hL.1, hL.2.1, hL.2.2, hC.1, hC.2.1, hC.2.2.1, lT, lF, tT, tF, eF, pF, zT, m1F, vT, cI, true_and, and_true, true_implies, false_implies, not_false_eq_true, not_true_eq_false, forall_eq, implies_true]
    refine run (ρ1, fun s => X_X11_beginAnew_9 G Q 1 0 s) (fun K2 => ?_)
    show X_X5_clear_2_s G (fun s => X_X11_beginAnew_9 G Q 1 0 s) 13 K2 (nI 12, mg κa ρ1)
    simp (disch := omega) only [X_X5_clear_2_s, n12, lT, lF, tT, tF, eF, pF, zT, m1F, vT, cI, true_and, and_true, true_implies, false_implies, not_false_eq_true, not_true_eq_false, forall_eq, implies_true]
    refine run2 (ρ1, Q) (fun K2 => ?_)
    show X_X11_beginAnew_9_s G Q 1 K2 (nI 4, mg κc ρ1)
    simp (disch := omega) only [X_X11_beginAnew_9_s, n4, lT, lF, tT, tF, eF, pF, zT, m1F, vT, cI, true_and, and_true, true_implies, false_implies, not_false_eq_true, not_true_eq_false, forall_eq, implies_true]
    refine run3 (ρ1, Q) (fun K2 => ?_)
    show X_X11_beginAnew_32_s G Q 1 K2 (nI 12, mg κd ρ1)
    have hC := hCd
    simp (disch := omega) only [X_X11_beginAnew_32_s, mI_c, mR_c, mJ_c, sI_c, sJ_c, sR_c, hL.1, hL.2.1, hL.2.2, hC.1, hC.2.1, hC.2.2.1, n12, lT, lF, tT, tF, eF, pF, zT, m1F, vT, cI, true_and, and_true, true_implies, false_implies, not_false_eq_true, not_true_eq_false, forall_eq, implies_true, I_is, I_cl, I_sl, J_is, J_cl, J_sl, R_is, R_cl, R_sl, mI_sJ, mI_sR, mJ_sI, mJ_sR, mR_sI, mR_sJ]
    exact hQ
  · omega
  · omega
  · omega
  · rw [I_cl (by decide), frd.I (by omega), frc.I (by omega)]; exact fa f hf
  · rw [I_cl (by decide)]; exact fd f hf
  · rw [I_cl (by omega), frd.I (by omega)]; exact fc u hu
theorem j_rdClasses (hG : Ly G) (hC : StC κ) (hm : StM ρ) (hs : sd = 14 ∨ sd = 275) (hT : TokC κ B z T) (h4 : mI κ 3 4 = nI 0) (hB : BtM ρ B z) : ∃ r κ' ρ', RunC (fun Q σ => X_X0_readClasses G Q 7 sd σ) κ r κ' ∧ RunM (fun Q σ => X_X12_readClasses G Q 1282 σ) ρ r ρ' ∧ ((r = 0 ∧ Fl κ ρ sd κ' ρ') ∨ (r = 1 ∧ ∃ n nw mc rt hc ow tb, DFin κ ρ sd n nw mc rt hc ow tb κ' ρ')) := by
  have hL := hG.1
  have hM := hG.2.2.2
  have hTs := hG.s hs
  obtain ⟨κa, ea⟩ : ∃ κa, κa = sR (sI (sI (sI (sR κ 7 1 sd) sd 0 0) sd 2 0) sd 4 0) 7 2 0 := ⟨_, rfl⟩
  obtain ⟨ρa, er⟩ : ∃ ρa, ρa = sI (sI (sI (sI ρ 1282 24 13) 1282 56 0) 1282 25 1600) 1282 50 0 := ⟨_, rfl⟩
  have hCa : StC κa := by
    subst ea
    exact StC.wR ((((hC.wR (Or.inr (Or.inr (Or.inl ⟨rfl, by decide⟩)))).wI _ _ _).wI _ _ _).wI _ _ _) (Or.inr (Or.inr (Or.inl ⟨rfl, by decide⟩)))
  have hma : StM ρa := by subst er; exact (((hm.wI _ _ _).wI _ _ _).wI _ _ _).wI _ _ _
  have frC : Eqv (dpC sd) κ κa := by
    subst ea
    refine Eqv.tr ((((Eqv.wR ?_ _).sI ?_ _).sI ?_ _).sI ?_ _) (Eqv.wR ?_ _)
    all_goals exact fun h => h (by omega)
  have frM : Eqv dpM ρ ρa := by
    subst er
    refine (((Eqv.wI ?_ _).sI ?_ _).sI ?_ _).sI ?_ _
    all_goals exact fun h => h (Or.inl (by omega))
  have hBa : BtM ρa B z := by
    obtain ⟨b1, b2, b3⟩ := hB
    subst er
    refine ⟨?_, b2, fun k hk => ?_⟩
    · simp (disch := omega) only [I_is, I_cl, I_sl, J_is, J_cl, J_sl, R_is, R_cl, R_sl, mI_sJ, mI_sR, mJ_sI, mJ_sR, mR_sI, mR_sJ]; exact b1
    · simp (disch := omega) only [I_is, I_cl, I_sl, J_is, J_cl, J_sl, R_is, R_cl, R_sl, mI_sJ, mI_sR, mJ_sI, mJ_sR, mR_sI, mR_sJ]; exact b3 k hk
  obtain ⟨ρb, r2, s2, e2, t2⟩ := m_advance (e := 0) hM hma hBa (Nat.zero_le _) (by subst er; simp (disch := omega) only [I_is, I_cl, I_sl, J_is, J_cl, J_sl, R_is, R_cl, R_sl, mI_sJ, mI_sR, mJ_sI, mJ_sR, mR_sI, mR_sJ]; rfl)
  have hBb : BtM ρb B z := by
    obtain ⟨b1, b2, b3⟩ := hBa
    refine ⟨(e2.I (by unfold avM; omega)).trans b1, b2, fun k hk => ?_⟩
    rw [e2.I (by unfold avM; omega)]; exact b3 k hk
  have hTa : TC κa B z T 0 := by
    refine ⟨hT.fr ?_ (fun a k a1 a2 => ?_), ?_, Nat.zero_le _⟩
    · subst ea; simp (disch := omega) only [I_is, I_cl, I_sl, J_is, J_cl, J_sl, R_is, R_cl, R_sl, mI_sJ, mI_sR, mJ_sI, mJ_sR, mR_sI, mR_sJ]
    · subst ea; simp (disch := omega) only [I_is, I_cl, I_sl, J_is, J_cl, J_sl, R_is, R_cl, R_sl, mI_sJ, mI_sR, mJ_sI, mJ_sR, mR_sI, mR_sJ]; exact ⟨trivial, trivial⟩
    · subst ea; simp (disch := omega) only [I_is, I_cl, I_sl, J_is, J_cl, J_sl, R_is, R_cl, R_sl, mI_sJ, mI_sR, mJ_sI, mJ_sR, mR_sI, mR_sJ]; exact h4
  have hP : PS κ ρ sd B z T κa ρb 0 := ⟨⟨hCa, s2⟩, ⟨hTa, hBb, t2⟩, ⟨frC, frM.tr (e2.mo fun a k hh => by unfold dpM at hh; unfold avM; exact fun q => hh (Or.inl (by omega)))⟩, by subst ea; rw [R_sl (by decide)]; show mR (sR κ 7 1 sd) 7 1 = sd; exact R_is _ _ _ _, hs⟩
  have h72 : mR κa 7 2 = 0 := by subst ea; exact R_is _ _ _ _
  have hR : DRf sd 0 0 (fun _ => 0) (fun _ => 0) (fun _ => 0) (fun _ => 0) (fun _ => 0) κa ρb := by
    refine ⟨⟨fun c hc => by omega, ⟨rfl, fun c hc => by omega⟩, by decide, by decide⟩, fun c hc => by omega, ⟨?_, ?_, ?_⟩, ?_, ?_⟩
    · subst ea; simp (disch := omega) only [I_is, I_cl, I_sl, J_is, J_cl, J_sl, R_is, R_cl, R_sl, mI_sJ, mI_sR, mJ_sI, mJ_sR, mR_sI, mR_sJ]; rfl
    · subst ea; simp (disch := omega) only [I_is, I_cl, I_sl, J_is, J_cl, J_sl, R_is, R_cl, R_sl, mI_sJ, mI_sR, mJ_sI, mJ_sR, mR_sI, mR_sJ]; rfl
    · subst ea; simp (disch := omega) only [I_is, I_cl, I_sl, J_is, J_cl, J_sl, R_is, R_cl, R_sl, mI_sJ, mI_sR, mJ_sI, mJ_sR, mR_sI, mR_sJ]; rfl
    · rw [e2.I (by unfold avM; omega)]; subst er; simp (disch := omega) only [I_is, I_cl, I_sl, J_is, J_cl, J_sl, R_is, R_cl, R_sl, mI_sJ, mI_sR, mJ_sI, mJ_sR, mR_sI, mR_sJ]; rfl
    · rw [e2.I (by unfold avM; omega)]; subst er; simp (disch := omega) only [I_is, I_cl, I_sl, J_is, J_cl, J_sl, R_is, R_cl, R_sl, mI_sJ, mI_sR, mJ_sI, mJ_sR, mR_sI, mR_sJ]; rfl
  have goC : ∀ ρ1 (Q : Int32 → Mem → Prop), Lw (X_X0_readClasses_19_s G Q 7) (nI 0, mg κa ρ1) → X_X0_readClasses G Q 7 sd (mg κ ρ1) := fun ρ1 Q hh => by
    simp (disch := omega) only [X_X0_readClasses, X_X0_readClasses_0, X_X6_clear, X_X6_clear_0, mI_c, mR_c, mJ_c, sI_c, sJ_c, sR_c, hL.1, hL.2.1, hL.2.2, hC.1, hC.2.1, hC.2.2.1, hTs.1, lT, lF, tT, tF, eF, pF, zT, m1F, vT, cI, true_and, and_true, true_implies, false_implies, not_false_eq_true, not_true_eq_false, forall_eq, implies_true, I_is, I_cl, I_sl, J_is, J_cl, J_sl, R_is, R_cl, R_sl, mI_sJ, mI_sR, mJ_sI, mJ_sR, mR_sI, mR_sJ]
    rw [← ea]
    exact hh
  have goM : ∀ κ1 (Q : Int32 → Mem → Prop), Lw (X_X12_readClasses_27_s G Q 1282) (mg κ1 ρb) → X_X12_readClasses G Q 1282 (mg κ1 ρ) := fun κ1 Q hh => by
    simp (disch := omega) only [X_X12_readClasses, X_X12_readClasses_0, mI_m, mR_m, mJ_m, sI_m, sJ_m, hM.1, hM.2, hm.1, hm.2, lT, lF, tT, tF, eF, pF, zT, m1F, vT, cI, true_and, and_true, true_implies, false_implies, not_false_eq_true, not_true_eq_false, forall_eq, implies_true, I_is, I_cl, I_sl, J_is, J_cl, J_sl, R_is, R_cl, R_sl, mI_sJ, mI_sR, mJ_sI, mJ_sR, mR_sI, mR_sJ]
    rw [← er]
    exact r2 κ1 _ hh
  obtain ⟨r, κ2, ρ2, f1, f2, f3⟩ := j_rdloop hG (T - 0) 0 0 0 0 _ _ _ _ _ κa ρb rfl (Nat.le_refl _) hP hR h72 (by decide)
  rcases f3 with ⟨rfl, hF⟩ | ⟨rfl, n, nw, mc, rt, hc, ow, tb, hP2, hR2⟩
  · exact ⟨0, κ2, ρ2, fun ρ1 Q hQ => goC ρ1 Q (f1 ρ1 Q ⟨fun _ => hQ, fun e => absurd e (by decide)⟩), fun κ1 Q hQ => goM κ1 Q (f2 κ1 Q ⟨fun _ => hQ, fun e => absurd e (by decide)⟩), Or.inl ⟨rfl, hF⟩⟩
  · obtain ⟨r, κ3, ρ3, g1, g2, g3⟩ := j_resolve hG hP2 hR2
    refine ⟨r, κ3, ρ3, fun ρ1 Q hQ => goC ρ1 Q (f1 ρ1 Q ⟨fun e => absurd e (by decide), fun _ => g1 ρ1 Q hQ⟩), fun κ1 Q hQ => goM κ1 Q (f2 κ1 Q ⟨fun e => absurd e (by decide), fun _ => g2 κ1 Q hQ⟩), ?_⟩
    rcases g3 with g3 | ⟨g3, g4⟩
    · exact Or.inl g3
    · exact Or.inr ⟨g3, n, nw, mc, rt, hc, ow, tb, g4⟩
end ANEW
