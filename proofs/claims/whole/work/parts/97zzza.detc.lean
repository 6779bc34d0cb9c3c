/-! the class's answer to a row is one -/
section DETC
variable {G : Lay} {Q Q' : Int32 → Mem → Prop} {R R' : Nat → Mem → Prop} {l0 ll : Nat} {l1 l2 l3 l4 : Int32} {σ : Mem}
theorem e_kindAt (h : X_X6_kindAt G R l0 l1 σ) (h' : X_X6_kindAt G R' l0 l1 σ) : ∃ w s, R w s ∧ R' w s := bdet h h' (fun u u' => ⟨_, _, u, u'⟩) (fun u u' => bdet u.2 u'.2 (fun u u' => ⟨_, _, u.2.2, u'.2.2⟩) (fun u u' => ⟨_, _, u, u'⟩))
theorem e_rootOf (h : X_X6_rootOf G Q l0 l1 σ) (h' : X_X6_rootOf G Q' l0 l1 σ) : ∃ w s, Q w s ∧ Q' w s := bdet h h' (fun u u' => ⟨_, _, u, u'⟩) (fun u u' => bdet u.2 u'.2 (fun u u' => ⟨_, _, u.2.2.2, u'.2.2.2⟩) (fun u u' => ⟨_, _, u, u'⟩))
theorem e_memberAt (h : X_X6_memberAt G R l0 l1 l2 σ) (h' : X_X6_memberAt G R' l0 l1 l2 σ) : ∃ w s, R w s ∧ R' w s := by
  obtain ⟨w, s, y, y'⟩ := e_kindAt h.2 h'.2
  exact bdet y y' (fun u u' => ⟨_, _, u, u'⟩) (fun u u' => bdet u u' (fun u u' => ⟨_, _, u, u'⟩) (fun u u' => bdet u.2 u'.2 (fun u u' => ⟨_, _, u.2.2, u'.2.2⟩) (fun u u' => ⟨_, _, u, u'⟩)))
theorem e_rowOf (h : X_X5_rowOf G Q l0 l1 l2 σ) (h' : X_X5_rowOf G Q' l0 l1 l2 σ) : ∃ w s, Q w s ∧ Q' w s := by
  refine bdet h h' (fun u u' => ⟨_, _, u, u'⟩) (fun u u' => bdet u u' (fun u u' => ?_) (fun u u' => ⟨_, _, u, u'⟩))
  refine Lw.det (fun K K' a x x' => ?_) u u'
  obtain ⟨a4, τ⟩ := a
  exact bdet x.2.2.2 x'.2.2.2 (fun u u' => Or.inr ⟨_, _, u, u'⟩) (fun u u' => bdet u.2.2 u'.2.2 (fun u u' => Or.inr ⟨_, _, u, u'⟩) (fun u u' => Or.inl ⟨_, u, u'⟩))
theorem e_rowLedTo (h : X_X5_rowLedTo G Q l0 l1 l2 σ) (h' : X_X5_rowLedTo G Q' l0 l1 l2 σ) : ∃ w s, Q w s ∧ Q' w s := by
  obtain ⟨w, s, y, y'⟩ := e_memberAt h.2.2.2.2 h'.2.2.2.2
  refine bdet y y' (fun u u' => ⟨_, _, u, u'⟩) (fun u u' => bdet u.2.2.2 u'.2.2.2 (fun u u' => ⟨_, _, u, u'⟩) (fun u u' => ?_))
  obtain ⟨w, s, y, y'⟩ := e_rootOf u.2.2 u'.2.2
  obtain ⟨w, s, y, y'⟩ := e_rowOf y.2.2.2 y'.2.2.2
  exact ⟨_, _, y, y'⟩
theorem e_127 {k : Int32} (h : X_X3_truthOfTerm_127 G Q k σ) (h' : X_X3_truthOfTerm_127 G Q' k σ) : ∃ w s, Q w s ∧ Q' w s := bdet h h' (fun u u' => ⟨_, _, u, u'⟩) (fun u u' => ⟨_, _, u, u'⟩)
theorem e_cmp (h : X_X3_compares G Q l1 l2 l3 σ) (h' : X_X3_compares G Q' l1 l2 l3 σ) : ∃ w s, Q w s ∧ Q' w s := bdet h h' (fun u u' => bdet u u' (fun u u' => ⟨_, _, u.2, u'.2⟩) (fun u u' => ⟨_, _, u.2, u'.2⟩)) (fun u u' => bdet u u' (fun u u' => bdet u u' (fun u u' => ⟨_, _, u.2, u'.2⟩) (fun u u' => ⟨_, _, u.2, u'.2⟩)) (fun u u' => bdet u u' (fun u u' => ⟨_, _, u.2, u'.2⟩) (fun u u' => ⟨_, _, u.2, u'.2⟩)))
theorem e_truth (h : X_X3_truthOfTerm G Q l0 ll l2 l3 σ) (h' : X_X3_truthOfTerm G Q' l0 ll l2 l3 σ) : ∃ w s, Q w s ∧ Q' w s := by
  obtain ⟨-, -, -, h⟩ := h
  obtain ⟨-, -, -, h'⟩ := h'
  refine Lw.det (fun K K' a x x' => ?_) h h'
  obtain ⟨a5, a6, τ⟩ := a
  refine bdet x x' (fun u u' => Or.inr ?_) (fun u u' => ?_)
  · refine bdet u.2.2.2.2.2.2.2.2.2 u'.2.2.2.2.2.2.2.2.2 (fun u u' => bdet u u' e_127 e_127) (fun u u' => ?_)
    obtain ⟨w, s, y, y'⟩ := e_cmp u.2.2 u'.2.2
    exact e_127 y y'
  · obtain ⟨w, s, y, y'⟩ := e_rowLedTo u.2.2.2.2 u'.2.2.2.2
    exact bdet y y' (fun u u' => Or.inr ⟨_, _, u, u'⟩) (fun u u' => Or.inl ⟨_, u, u'⟩)
theorem e_join (h : X_X3_join G Q l0 l1 l2 σ) (h' : X_X3_join G Q' l0 l1 l2 σ) : ∃ w s, Q w s ∧ Q' w s := by
  have e28 : X_X3_join_28 G Q l0 l1 l2 σ → X_X3_join_28 G Q' l0 l1 l2 σ → ∃ w s, Q w s ∧ Q' w s := fun u u' => bdet u u' (fun u u' => bdet u.2.2.2.2 u'.2.2.2.2 (fun u u' => edet u.2.2 u'.2.2 fun z z' => ⟨_, _, z, z'⟩) (fun u u' => edet u.2.2 u'.2.2 fun z z' => ⟨_, _, z, z'⟩)) (fun u u' => ⟨_, _, u, u'⟩)
  exact bdet h h' (fun u u' => bdet u u' e28 (fun u u' => edet u.2.2.2 u'.2.2.2 fun z z' => ⟨_, _, z, z'⟩)) e28
theorem e_isTrueOf (h : X_X3_isTrueOf G Q l0 ll l2 σ) (h' : X_X3_isTrueOf G Q' l0 ll l2 σ) : ∃ w s, Q w s ∧ Q' w s := by
  refine Lw.det (F := X_X3_isTrueOf_8_s G Q l0 ll l2) (F' := X_X3_isTrueOf_8_s G Q' l0 ll l2) (fun K K' a x x' => ?_) h h'
  obtain ⟨a3, a4, a5, τ⟩ := a
  have e116 : X_X3_isTrueOf_116 G Q l0 a3 τ → X_X3_isTrueOf_116 G Q' l0 a3 τ → ∃ w s, Q w s ∧ Q' w s := fun u u' => bdet u u' (fun u u' => ⟨_, _, u.2, u'.2⟩) (fun u u' => bdet u.2.2.2 u'.2.2.2 (fun u u' => ⟨_, _, u.2, u'.2⟩) (fun u u' => ⟨_, _, u.2, u'.2⟩))
  have e70 : ∀ {τ b3}, X_X3_isTrueOf_70 G Q K l0 ll l2 b3 a4 a5 (mI τ (mR τ l0 2) a4.toNatClampNeg) τ → X_X3_isTrueOf_70 G Q' K' l0 ll l2 b3 a4 a5 (mI τ (mR τ l0 2) a4.toNatClampNeg) τ → ∃ b, K b ∧ K' b := fun u u' => bdet u.2.2.2 u'.2.2.2 (fun u u' => ⟨_, u, u'⟩) (fun u u' => ⟨_, u, u'⟩)
  have e70' : ∀ {τ b3 c6}, X_X3_isTrueOf_70 G Q K l0 ll l2 b3 a4 a5 c6 τ → X_X3_isTrueOf_70 G Q' K' l0 ll l2 b3 a4 a5 c6 τ → ∃ b, K b ∧ K' b := fun u u' => bdet u.2.2.2 u'.2.2.2 (fun u u' => ⟨_, u, u'⟩) (fun u u' => ⟨_, u, u'⟩)
  have e47 : ∀ {c6}, X_X3_isTrueOf_47 G Q K l0 ll l2 a3 a4 a5 c6 τ → X_X3_isTrueOf_47 G Q' K' l0 ll l2 a3 a4 a5 c6 τ → ∃ b, K b ∧ K' b := fun u u' => bdet u u' e70' (fun u u' => by
    obtain ⟨w, s, y, y'⟩ := e_truth u.2 u'.2
    exact edet y.2.2 y'.2.2 e70')
  refine bdet x.2 x'.2 (fun u u' => Or.inr (e116 u u')) (fun u u' => bdet u u' (fun u u' => Or.inr (e116 u u')) (fun u u' => bdet u.2.2 u'.2.2 (fun u u' => Or.inl (e47 u u')) (fun u u' => bdet u u' (fun u u' => Or.inl (e47 u u')) (fun u u' => ?_))))
  obtain ⟨w, s, y, y'⟩ := e_join u u'
  exact Or.inl ⟨_, y, y'⟩
end DETC
section TELL
variable {G : Lay} {κ κ' ρ ρ' κ1 ρ1 : Mem} {sc n r0 c0 A S f i r cc : Nat} {mc rt hc K N P D : Nat → Nat}
/-- the truth of a row, whatever the scratch -/
theorem j_truthOf (hG : Ly G) (hE : EV sc n mc rt hc K N r0 c0 A S P D κ ρ) (hf : f < 12) (hi : i < N f) (hr : r < r0) (hro : RowR κ ρ f i r) (hcc : cc < n) (e07 : mI ρ 1307 r = nI cc) (hisa : isa (par ρ) cc c0 = true) : ∃ b : Int32, (b = 0 ∨ b = 1) ∧ (∀ κ', StC κ' → Eqv exC κ κ' → ∃ κe, StC κe ∧ Eqv (fun a _ => a ≠ 10) κ' κe ∧ RunC (fun Q σ => X_X3_isTrueOf G Q 8 13 (nI (60 * f + i)) σ) κ' b κe) ∧ ∀ ρ', StM ρ' → Eqv exM ρ ρ' → ∃ ρe, StM ρe ∧ Eqv (fun a _ => a ≠ 1347) ρ' ρe ∧ RunM (fun Q σ => X_X12_isTold G Q 1282 (nI r) σ) ρ' b ρe := by
  have go : ∀ κ' ρ', StC κ' → StM ρ' → Eqv exC κ κ' → Eqv exM ρ ρ' → ∃ b κe ρe, (b = 0 ∨ b = 1) ∧ (StC κe ∧ StM ρe) ∧ (Eqv (fun a _ => a ≠ 10) κ' κe ∧ Eqv (fun a _ => a ≠ 1347) ρ' ρe) ∧ RunC (fun Q σ => X_X3_isTrueOf G Q 8 13 (nI (60 * f + i)) σ) κ' b κe ∧ RunM (fun Q σ => X_X12_isTold G Q 1282 (nI r) σ) ρ' b ρe := fun κ' ρ' hC hm e1 e2 => by
    have hE' := hE.fr hC hm e1 e2
    have hro' : RowR κ' ρ' f i r := hro.fr (e1.mo fun a k q => by unfold rC at q; unfold exC; omega) (e2.mo fun a k q => by unfold rM at q; unfold exM; omega)
    have e07' : mI ρ' 1307 r = nI cc := (e2.I (by unfold exM; omega)).trans e07
    have isa' : isa (par ρ') cc c0 = true := by
      rw [isa_cg hE.2.1.par hE.2.1.le (fun c _ => e2.I (by unfold exM; omega)) cc hcc]; exact hisa
    have p0 : P 0 = 0 := hE.2.2.2.2.1.2.2.2.1
    have d0 : D 0 = 0 := hE.2.2.2.2.1.2.2.2.2.1
    obtain ⟨b, κe, ρe, y1, y2, y3, y4, y5⟩ := j_told hG hE' hf hi hr hro' hcc e07' isa' (A - 0) 0 κ' ρ' rfl (Nat.zero_le _) hC hm Eqv.rf Eqv.rf (fun q hq => by omega)
    rw [p0, d0] at y4
    rw [d0] at y5
    exact ⟨b, κe, ρe, y1, y2, y3, y4, y5⟩
  have hC0 := hE.1.1
  have hm0 := hE.1.2
  obtain ⟨b, κe, ρe, y1, ⟨y2, y2'⟩, -, y4, y5⟩ := go κ ρ hC0 hm0 Eqv.rf Eqv.rf
  refine ⟨b, y1, fun κ' hC e1 => ?_, fun ρ' hm e2 => ?_⟩
  · obtain ⟨b', κx, ρx, z1, ⟨z2, z2'⟩, ⟨z3, -⟩, z4, z5⟩ := go κ' ρ hC hm0 e1 Eqv.rf
    have eb : b' = b := by
      obtain ⟨w, s, w1, w2⟩ := d_isTold (z5 κ (fun w _ => w = b') rfl) (y5 κ (fun w _ => w = b) rfl)
      exact w1.symm.trans w2
    rw [eb] at z4
    exact ⟨κx, z2, z3, z4⟩
  · obtain ⟨b', κx, ρx, z1, ⟨z2, z2'⟩, ⟨-, z3⟩, z4, z5⟩ := go κ ρ' hC0 hm Eqv.rf e2
    have eb : b' = b := by
      obtain ⟨w, s, w1, w2⟩ := e_isTrueOf (z4 ρ (fun w _ => w = b') rfl) (y4 ρ (fun w _ => w = b) rfl)
      exact w1.symm.trans w2
    rw [eb] at z5
    exact ⟨ρx, z2', z3, z5⟩
end TELL
