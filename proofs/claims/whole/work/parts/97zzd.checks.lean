/-! checkLeads, side by side -/
def DTg (sd n : Nat) (mc ow tb : Nat → Nat) (κ ρ : Mem) : Prop := (∀ c m, c < n → ow c ≤ m → m < mc c → (∃ kd, 4 ≤ kd ∧ kd ≤ 5 ∧ mI ρ 1290 (16 * (13 + c) + m) = nI kd) → mI κ (sd + 64 + tb c + (m - ow c)) 8 = mI ρ 1291 (16 * (13 + c) + m) ∧ (mI ρ 1291 (16 * (13 + c) + m) = -1 ∨ ∃ t, t < n ∧ mI ρ 1291 (16 * (13 + c) + m) = nI t)) ∧ ∀ c m o, c < n → m < mc c → o < 12 → mI ρ 1296 (16 * (13 + c) + m) = nI o → mI ρ 1291 (16 * (13 + c) + m) = mI ρ 1291 (16 * (13 + o) + m)
def PBy (sd n : Nat) (mc ow tb : Nat → Nat) (κ ρ : Mem) (c m : Nat) : Prop := ∀ kd, mI ρ 1290 (16 * (13 + c) + m) = nI kd → 4 ≤ kd → kd ≤ 5 → ∃ t, t < n ∧ mI ρ 1291 (16 * (13 + c) + m) = nI t ∧ (kd = 5 → ∃ b, b < mc t ∧ mI κ (sd + 64 + tb c + (m - ow c)) 11 = nI b ∧ mI ρ 1295 (16 * (13 + c) + m) = nI b ∧ mI ρ 1290 (16 * (13 + t) + b) = 4)
def CkS (κ0 ρ0 : Mem) (sd n nw : Nat) (mc rt hc ow tb : Nat → Nat) (c0 m0 : Nat) (κ ρ : Mem) : Prop := (StC κ ∧ StM ρ) ∧ (Eqv (dpC sd) κ0 κ ∧ Eqv dpM ρ0 ρ) ∧ (mR κ 7 1 = sd ∧ (sd = 14 ∨ sd = 275)) ∧ DRf sd n nw mc rt hc ow tb κ ρ ∧ DTg sd n mc ow tb κ ρ ∧ ∀ c m, (c < c0 ∨ c = c0 ∧ m < m0) → c < n → ow c ≤ m → m < mc c → PBy sd n mc ow tb κ ρ c m
def idx (ow tb : Nat → Nat) (c m : Nat) : Nat := tb c + (m - ow c)
def CkR (G : Lay) (κ0 ρ0 : Mem) (sd n nw : Nat) (mc rt hc ow tb : Nat → Nat) (c m : Nat) (κ ρ : Mem) : Prop := (∃ κ' ρ', Fl κ0 ρ0 sd κ' ρ' ∧ (∀ ρ1 (Q : Int32 → Mem → Prop), Q 0 (mg κ' ρ1) → Lw (X_X0_checkLeads_2_s G Q 7) (nI (idx ow tb c m), mg κ ρ1)) ∧ ∀ κ1 (Q : Int32 → Mem → Prop) (K : Int32 × Mem → Prop), Q 0 (mg κ1 ρ') → Lw (X_X12_readClasses_204_s G Q K 1282 (nI (13 + c))) (nI m, mg κ1 ρ)) ∨ ∃ κ' ρ', CkS κ0 ρ0 sd n nw mc rt hc ow tb c (m + 1) κ' ρ' ∧ (∀ ρ1 (Q : Int32 → Mem → Prop), Lw (X_X0_checkLeads_2_s G Q 7) (nI (idx ow tb c (m + 1)), mg κ' ρ1) → Lw (X_X0_checkLeads_2_s G Q 7) (nI (idx ow tb c m), mg κ ρ1)) ∧ ∀ κ1 (Q : Int32 → Mem → Prop) (K : Int32 × Mem → Prop), Lw (X_X12_readClasses_204_s G Q K 1282 (nI (13 + c))) (nI (m + 1), mg κ1 ρ') → Lw (X_X12_readClasses_204_s G Q K 1282 (nI (13 + c))) (nI m, mg κ1 ρ)
section CHK
variable {G : Lay} {κ0 ρ0 κ κ' ρ ρ' ρ1 κ1 : Mem} {sd s n nw c m t o b : Nat} {mc rt hc ow tb : Nat → Nat} {v : Int64} {Q : Int32 → Mem → Prop}
theorem CkS.flt (h : CkS κ0 ρ0 sd n nw mc rt hc ow tb c m κ ρ) {pl pl' : Int32} (e : pl = pl') : Fl κ0 ρ0 sd (sI (sI κ 3 5 5) 3 6 pl) (sI (sI (sI ρ 1282 49 pl') 1282 54 5) 1282 55 pl') := by
  subst e
  obtain ⟨⟨h1, h2⟩, ⟨e1, e2⟩, -⟩ := h
  have e1 : Eqv (dfC sd) κ0 κ := e1.mo fun a k hh => by unfold dfC at hh; unfold dpC; omega
  have e2 : Eqv dfM ρ0 ρ := e2.mo fun a k hh q => hh (by rcases q with q | q; exact Or.inl ⟨q.1, by omega⟩; exact Or.inr q)
  refine ⟨⟨(h1.wI _ _ _).wI _ _ _, ((h2.wI _ _ _).wI _ _ _).wI _ _ _⟩, ⟨(e1.sI (fun h => h (by omega)) _).sI (fun h => h (by omega)) _, ((e2.sI (fun h => h (by omega)) _).sI (fun h => h (by omega)) _).sI (fun h => h (by omega)) _⟩, ?_, ?_⟩
  · rw [I_sl (by decide), I_is, I_sl (by decide), I_is]
  · rw [I_is, I_is]
theorem CkS.more (h : CkS κ0 ρ0 sd n nw mc rt hc ow tb c m κ ρ) (hp : ow c ≤ m → PBy sd n mc ow tb κ ρ c m) : CkS κ0 ρ0 sd n nw mc rt hc ow tb c (m + 1) κ ρ := by
  obtain ⟨a1, a2, a3, a4, a5, a6⟩ := h
  refine ⟨a1, a2, a3, a4, a5, fun c' m' h1 h2 h3 h4 => ?_⟩
  by_cases e : c' = c ∧ m' = m
  · obtain ⟨rfl, rfl⟩ := e; exact hp h3
  · exact a6 c' m' (by omega) h2 h3 h4
theorem DLaw.ne (h : DLaw n mc hc ow tb) {c' m' : Nat} (hcn : c < n) (h1 : ow c ≤ m) (h2 : m < mc c) (hc' : c' < n) (h3 : ow c' ≤ m') (h4 : m' < mc c') (hne : ¬ (c' = c ∧ m' = m)) : tb c' + (m' - ow c') ≠ tb c + (m - ow c) := by
  have r : ∀ c m c' m', c < n → c' < c → ow c ≤ m → m < mc c → ow c' ≤ m' → m' < mc c' → tb c' + (m' - ow c') < tb c + (m - ow c) := fun c m c' m' a1 a2 a3 a4 a5 a6 => by
    have l : DLaw c mc hc ow tb := ⟨h.1, fun q hq => h.2 q (by omega)⟩
    have := l.lt a2 a5 a6
    omega
  by_cases e : c' = c
  · subst e; omega
  · by_cases e2 : c' < c
    · have := r c m c' m' hcn e2 h1 h2 h3 h4; omega
    · have := r c' m' c m hc' (by omega) h3 h4 h1 h2; omega
/-- a list's member is found -/
theorem CkS.by (h : CkS κ0 ρ0 sd n nw mc rt hc ow tb c m κ ρ) (hcn : c < n) (h1 : ow c ≤ m) (h2 : m < mc c) (ht : t < n) (e1 : mI ρ 1290 (16 * (13 + c) + m) = nI 5) (e2 : mI ρ 1291 (16 * (13 + c) + m) = nI t) (hb : b < mc t) (e3 : mI ρ 1290 (16 * (13 + t) + b) = 4) : CkS κ0 ρ0 sd n nw mc rt hc ow tb c (m + 1) (sI κ (sd + 64 + tb c + (m - ow c)) 11 (nI b)) (sI ρ 1295 (16 * (13 + c) + m) (nI b)) := by
  obtain ⟨⟨a1, a1'⟩, ⟨a2, a2'⟩, ⟨a3, hs⟩, a4, ⟨a5, a5'⟩, a6⟩ := h
  have law := a4.1.2.1
  have lt := law.lt hcn h1 h2
  have le := law.le n (Nat.le_refl _)
  have h12 := a4.1.2.2.1
  refine ⟨⟨a1.wI _ _ _, a1'.wI _ _ _⟩, ⟨a2.sI (fun h => h (by omega)) _, a2'.sI (fun h => h (Or.inr (by unfold upM; omega))) _⟩, ⟨a3, hs⟩, a4.fr2 (Eqv.wI (fun h => h (by omega)) _) (Eqv.wI (fun h => h (by omega)) _), ⟨fun c' m' y1 y2 y3 y4 => ?_, fun c' m' o' y1 y2 y3 y4 => ?_⟩, fun c' m' y1 y2 y3 y4 => ?_⟩
  · simp (disch := omega) only [I_is, I_cl, I_sl, J_is, J_cl, J_sl, R_is, R_cl, R_sl, mI_sJ, mI_sR, mJ_sI, mJ_sR, mR_sI, mR_sJ] at y4 ⊢
    exact a5 c' m' y1 y2 y3 y4
  · simp (disch := omega) only [I_is, I_cl, I_sl, J_is, J_cl, J_sl, R_is, R_cl, R_sl, mI_sJ, mI_sR, mJ_sI, mJ_sR, mR_sI, mR_sJ] at y4 ⊢
    exact a5' c' m' o' y1 y2 y3 y4
  · intro kd
    by_cases e : c' = c ∧ m' = m
    · obtain ⟨rfl, rfl⟩ := e
      simp (disch := omega) only [I_is, I_cl, I_sl, J_is, J_cl, J_sl, R_is, R_cl, R_sl, mI_sJ, mI_sR, mJ_sI, mJ_sR, mR_sI, mR_sJ]
      intro _ _ _
      exact ⟨t, ht, e2, fun _ => ⟨b, hb, rfl, rfl, e3⟩⟩
    · have ne := law.ne hcn h1 h2 y2 y3 y4 e
      have l1 := law.2 c hcn
      have l2 := law.2 c' y2
      have nk : 16 * (13 + c') + m' ≠ 16 * (13 + c) + m := by omega
      simp (disch := omega) only [I_is, I_cl, I_sl, J_is, J_cl, J_sl, R_is, R_cl, R_sl, mI_sJ, mI_sR, mJ_sI, mJ_sR, mR_sI, mR_sJ]
      exact a6 c' m' (by omega) y2 y3 y4 kd
theorem j_chk1 (hG : Ly G) (h : CkS κ0 ρ0 sd n nw mc rt hc ow tb c m κ ρ) (hcn : c < n) (hmc : m < mc c) : CkR G κ0 ρ0 sd n nw mc rt hc ow tb c m κ ρ := by
  have hL := hG.1
  have hM := hG.2.2.2
  obtain ⟨⟨hC, hm⟩, ⟨-, -⟩, ⟨h71, hs⟩, hR, ⟨d1, d2⟩, d3⟩ := id h
  obtain ⟨hB, hN, ⟨q1, q2, q3⟩, q4, q5⟩ := id hR
  have hT := hG.s hs
  have hK := hC.ss hs
  have h12 := hB.2.2.1
  have law := hB.2.1
  have lc := law.2 c hcn
  have le := law.le n (Nat.le_refl _)
  have n13 : (13 : Int32) = nI 13 := rfl
  have n16 : (16 : Int32) = nI 16 := rfl
  have n4 : (4 : Int32) = nI 4 := rfl
  have n5 : (5 : Int32) = nI 5 := rfl
  have e87 : mI ρ 1287 (13 + c) = nI (mc c) := (hN c hcn).1.2
  obtain ⟨o, o1, o2, o3, o4, o5, o6, o7⟩ := hB.owner hcn hmc
  obtain ⟨-, -, kd, kd1, kd2, kd3⟩ := hB.mem hcn hmc
  obtain ⟨k, ek⟩ : ∃ k, k = 16 * (13 + c) + m := ⟨_, rfl⟩
  have ek' : 16 * (13 + c) + m = k := ek.symm
  rw [ek'] at o4 kd3
  have sub : nI (13 + c) - nI 13 = nI c := by rw [pk_sub (by omega), show 13 + c - 13 = c by omega]
  by_cases how : ow c ≤ m
  · have eo : o = c := o7.mpr how
    subst eo
    obtain ⟨x, ex⟩ : ∃ x, x = sd + 64 + tb o + (m - ow o) := ⟨_, rfl⟩
    have ei : idx ow tb o m = tb o + (m - ow o) := rfl
    have ei2 : idx ow tb o (m + 1) = idx ow tb o m + 1 := by unfold idx; omega
    have lt := law.lt hcn how hmc
    have xi : sd + 64 + idx ow tb o m = x := by omega
    have gx : gT G x = 3 := by rw [ex, show sd + 64 + tb o + (m - ow o) = sd + 64 + (tb o + (m - ow o)) by omega]; exact hT.2.2 _ (by omega)
    obtain ⟨b1, ⟨b2, b2'⟩, b3, kd', f, w, ⟨c1, c2, c3⟩, -, -, -, c5, c6⟩ := (hB.1 o hcn).2.2.1 m how hmc
    rw [ek'] at c3 c5 c6
    rw [← ex] at b1 b2 b3 c2 c5 c6
    have ekk : kd' = kd := (eI (by omega) (by omega)).mp (c3.symm.trans kd3)
    subst ekk
    have stC : ∀ ρ1 (Q : Int32 → Mem → Prop) (K : Int32 × Mem → Prop), (((if 4 ≤ kd' then (1 : Int32) else 0) = 0 → X_X0_checkLeads_51 G Q K 7 (nI (idx ow tb o m)) x (mg κ ρ1)) ∧ (¬ (if 4 ≤ kd' then (1 : Int32) else 0) = 0 → ((mI κ x 8 = (-1 : Int32) → X_X8_refuseAt G (fun w10 s9 => (bz w10 ∧ Q w10 s9)) 3 (5 : Int32) (mI κ x 7) (mg κ ρ1)) ∧ (¬ mI κ x 8 = (-1 : Int32) → X_X0_checkLeads_51 G Q K 7 (nI (idx ow tb o m)) x (mg κ ρ1))))) → X_X0_checkLeads_2_s G Q 7 K (nI (idx ow tb o m), mg κ ρ1) := fun ρ1 Q K hh => by
      simp (disch := omega) only [X_X0_checkLeads_2_s, mI_c, mR_c, mJ_c, sI_c, sJ_c, sR_c, hL.1, hL.2.1, hL.2.2, hC.1, hC.2.1, hC.2.2.1, hT.1, h71, q2, hK.1, hK.2.2, xi, gx, lT, lF, tT, tF, eF, pF, zT, m1F, vT, cI, true_and, and_true, true_implies, false_implies, not_false_eq_true, not_true_eq_false, forall_eq, implies_true]
      refine c_leading gx (by omega) c1 c2 ?_
      rw [mI_c (by omega), mI_c (by omega), (mR_c (by decide) _).trans hC.1.2.2.2.2.2.2.2.2.2.2.2.2.2.1]
      exact ⟨hh.1, fun e => ⟨fun e2 => ⟨hL.1.2.2.2.1, (hh.2 e).1 e2⟩, (hh.2 e).2⟩⟩
    have at51 : ∀ ρ1 (Q : Int32 → Mem → Prop) (K : Int32 × Mem → Prop), kd' ≠ 5 → K (nI (idx ow tb o m + 1), mg κ ρ1) → X_X0_checkLeads_51 G Q K 7 (nI (idx ow tb o m)) x (mg κ ρ1) := fun ρ1 Q K h5 hh => by
      simp (disch := omega) only [X_X0_checkLeads_51, X_X0_checkLeads_80, gx, mI_c, c2, n5, nI_1, lT, lF, tT, tF, eF, pF, zT, m1F, vT, cI, true_and, and_true, true_implies, false_implies, not_false_eq_true, not_true_eq_false, forall_eq, implies_true]
      exact hh
    by_cases h4 : kd' < 4
    · refine Or.inr ⟨κ, ρ, h.more fun _ kd2 y1 y2 y3 => ?_, fun ρ1 Q hh => Lw.stp (fun K hK' => stC ρ1 Q K ?_) hh, fun κ1 Q K hh => Lw.stp (fun K2 hK' => ?_) hh⟩
      · rw [ek', kd3] at y1
        have := (eI (by omega) (by omega)).mp y1
        omega
      · rw [if_neg (by omega)]
        refine br0 (at51 ρ1 Q K (by omega) ?_)
        rw [← ei2]; exact hK'
      · simp (disch := omega) only [X_X12_readClasses_204_s, X_X12_readClasses_393, mI_m, mR_m, mJ_m, sI_m, sJ_m, hM.1, hM.2, hm.1, hm.2, e87, ek', kd3, n16, n4, pk_mul, nI_add, nI_1, lT, lF, tT, tF, eF, pF, zT, m1F, vT, cI, true_and, and_true, true_implies, false_implies, not_false_eq_true, not_true_eq_false, forall_eq, implies_true]
        exact hK'
    · obtain ⟨t1, t2⟩ := d1 o m hcn how hmc ⟨kd', by omega, c1, by rw [ek']; exact kd3⟩
      rw [ek'] at t1 t2
      rw [← ex] at t1
      obtain ⟨v1, v2⟩ := c5 (by omega)
      rcases t2 with t2 | ⟨t, ht, t2⟩
      · -- an unknown class
        refine Or.inl ⟨_, _, h.flt v2, fun ρ1 Q hQ => Lw.fin (fun K => stC ρ1 Q K ?_), fun κ1 Q K hQ => Lw.fin (fun K2 => ?_)⟩
        · rw [if_pos (by omega)]
          exact br1 (brT (t1.trans t2) (c_refuseAt hL ⟨bz0, hQ⟩))
        · have m1z : ((0 : Int32) ≤ -1) = False := eq_false (by decide)
          simp (disch := omega) only [X_X12_readClasses_204_s, mI_m, mR_m, mJ_m, sI_m, sJ_m, hM.1, hM.2, hm.1, hm.2, e87, ek', kd3, o4, t2, m1z, n16, n4, n13, sub, pk_mul, nI_add, nI_1, lT, lF, tT, tF, eF, pF, zT, m1F, vT, cI, true_and, and_true, true_implies, false_implies, not_false_eq_true, not_true_eq_false, forall_eq, implies_true, X_X12_fails_0, X_X12_fails, I_is, I_cl, I_sl, J_is, J_cl, J_sl, R_is, R_cl, R_sl, mI_sJ, mI_sR, mJ_sI, mJ_sR, mR_sI, mR_sJ, bzT0]
          exact hQ
      · have t8 : ¬ mI κ x 8 = -1 := by rw [t1, t2]; exact mI1 (by omega)
        have z0 : ((0 : Int32) ≤ nI t) = True := zT (by omega)
        by_cases h5 : kd' = 5
        · subst h5
          obtain ⟨u1, u2⟩ := c6 rfl
          have lt16 := law.2 t ht
          have nt := (hN t ht).1
          have htr : ∀ j, j < mc t → sd + 64 ≤ mR κ (sd + 5 + 5 * t) j ∧ mR κ (sd + 5 + 5 * t) j < sd + 256 := fun j hj => by
            have := (hB.mem ht hj).1; omega
          have ef : fdx (fun j => mJ κ (mR κ (sd + 5 + 5 * t) j) 0) (mJ κ x 9) (mc t) = fdx (fun j => mJ ρ 1289 (16 * (13 + t) + j)) (mJ ρ 1299 k) (mc t) := fdx_cg _ fun j hj => ((hB.mem ht hj).2.1).iff u1
          -- the class's findBy
          have fbC : ∀ ρ1 (Q : Int32 → Mem → Prop), X_X6_memberAt G (fun w8 s7 => ((w8 = 0 → X_X0_findBy_59 G Q s7) ∧ (¬ w8 = 0 → gT G w8 = 3 ∧ (((mI s7 w8 2) = (4 : Int32) → gT G (mR s7 7 1) = 7 ∧ X_X6_isOf G (fun w12 s11 => ((w12 = 0 → X_X0_findBy_59 G Q s11) ∧ (¬ w12 = 0 → ∀ s13, s13 = sI s11 x 11 (fdx (fun j => mJ κ (mR κ (sd + 5 + 5 * t) j) 0) (mJ κ x 9) (mc t)) → (bz (1 : Int32) ∧ Q (1 : Int32) s13)))) (mR s7 7 1) (mI s7 x 1) (mI s7 w8 8) s7) ∧ (¬ (mI s7 w8 2) = (4 : Int32) → X_X0_findBy_59 G Q s7))))) sd (nI t) (fdx (fun j => mJ κ (mR κ (sd + 5 + 5 * t) j) 0) (mJ κ x 9) (mc t)) (mg κ ρ1) → X_X0_findBy G Q 7 x (mg κ ρ1) := fun ρ1 Q hh => by
            unfold X_X0_findBy X_X0_findBy_0
            rw [mR_c (by decide), h71, mI_c (by omega), t1, t2, mJ_c (by omega)]
            refine ⟨hL.1.2.2.2.2.2.2.2.2.2.2.1, gx, hT.1.1, c_mbNamed hG hC hs q1 h12 ht nt.1 lt16.2.1 htr ?_⟩
            rw [mR_c (by decide), h71, mI_c (by omega), t1, t2]
            exact ⟨hT.1.1, hh⟩
          have badC : (∀ ρ1 (Q : Int32 → Mem → Prop), Q 0 (mg κ ρ1) → X_X0_findBy G Q 7 x (mg κ ρ1)) → ∀ ρ1 (Q : Int32 → Mem → Prop), Q 0 (mg (sI (sI κ 3 5 5) 3 6 (mI κ x 10)) ρ1) → Lw (X_X0_checkLeads_2_s G Q 7) (nI (idx ow tb o m), mg κ ρ1) := fun fb ρ1 Q hQ => Lw.fin (fun K => stC ρ1 Q K (by
            rw [if_pos (by omega)]
            refine br1 (brF t8 ?_)
            unfold X_X0_checkLeads_51
            rw [mI_c (by omega), c2]
            refine ⟨gx, brT rfl ⟨hL.1.2.2.2.2.2.2.2.2.2.2.1, fb ρ1 _ (br0 ?_)⟩⟩
            simp (disch := omega) only [mI_c, mR_c, mJ_c, sI_c, sJ_c, sR_c, hL.1, hL.2.1, hL.2.2, hC.1, hC.2.1, hC.2.2.1, lT, lF, tT, tF, eF, pF, zT, m1F, vT, cI, true_and, and_true, true_implies, false_implies, not_false_eq_true, not_true_eq_false, forall_eq, implies_true]
            exact c_refuseAt hL ⟨bz0, hQ⟩))
          have bad : (∀ ρ1 (Q : Int32 → Mem → Prop), Q 0 (mg κ ρ1) → X_X0_findBy G Q 7 x (mg κ ρ1)) → (∀ κ1 (Q : Int32 → Mem → Prop) (K K2 : Int32 × Mem → Prop), X_X12_readClasses_369 G Q 1282 (nI k) (mg κ1 ρ) → X_X12_readClasses_204_s G Q K 1282 (nI (13 + o)) K2 (nI m, mg κ1 ρ)) → CkR G κ0 ρ0 sd n nw mc rt hc ow tb o m κ ρ := fun fb fm => Or.inl ⟨_, _, h.flt u2, badC fb, fun κ1 Q K hQ => Lw.fin (fun K2 => fm κ1 Q K K2 (by
            simp (disch := omega) only [X_X12_readClasses_369, mI_m, mR_m, mJ_m, sI_m, sJ_m, hM.1, hM.2, hm.1, hm.2, lT, lF, tT, tF, eF, pF, zT, m1F, vT, cI, true_and, and_true, true_implies, false_implies, not_false_eq_true, not_true_eq_false, forall_eq, implies_true, X_X12_fails_0, X_X12_fails, I_is, I_cl, I_sl, J_is, J_cl, J_sl, R_is, R_cl, R_sl, mI_sJ, mI_sR, mJ_sI, mJ_sR, mR_sI, mR_sJ, bzT0]
            exact hQ))⟩
          have m1t : ((-1 : Int32) < 0) = True := eq_true m1_neg
          rcases fdx_cases (f := fun j => mJ ρ 1289 (16 * (13 + t) + j)) (v := mJ ρ 1299 k) (mc t) (by omega) with ⟨eb, -⟩ | ⟨b, hb, eb, -⟩
          · refine bad (fun ρ1 Q hQ => fbC ρ1 Q ?_) (fun κ1 Q K K2 hh => ?_)
            · rw [ef, eb]
              exact c_mbAt0 hG hC hs q1 h12 ht (brT rfl ⟨bz0, hQ⟩)
            · simp (disch := omega) only [X_X12_readClasses_204_s, mI_m, mR_m, mJ_m, sI_m, sJ_m, hM.1, hM.2, hm.1, hm.2, e87, ek', kd3, o4, t2, z0, n16, n4, n13, sub, pk_mul, nI_add, nI_1, lT, lF, tT, tF, eF, pF, zT, m1F, vT, cI, true_and, and_true, true_implies, false_implies, not_false_eq_true, not_true_eq_false, forall_eq, implies_true]
              refine m_mbNamed hM hm (by omega) nt.2 lt16.2.1 ?_
              rw [eb]
              simp (disch := omega) only [mI_m, mR_m, mJ_m, sI_m, sJ_m, hM.1, hM.2, hm.1, hm.2, m1t, lT, lF, tT, tF, eF, pF, zT, m1F, vT, cI, true_and, and_true, true_implies, false_implies, not_false_eq_true, not_true_eq_false, forall_eq, implies_true]
              exact hh
          · obtain ⟨-, -, kb, kb1, kb2, kb3⟩ := hB.mem ht hb
            obtain ⟨p, p1, p2, p3, p4, p5, p6, p7⟩ := hB.owner ht hb
            have gx' : gT G (mR κ (sd + 5 + 5 * t) b) = 3 := by
              have := htr b hb
              have hh := hT.2.2 (mR κ (sd + 5 + 5 * t) b - (sd + 64)) (by omega)
              rw [show sd + 64 + (mR κ (sd + 5 + 5 * t) b - (sd + 64)) = mR κ (sd + 5 + 5 * t) b by omega] at hh
              exact hh
            have hx' := htr b hb
            have fb2 : ∀ ρ1 (Q : Int32 → Mem → Prop), ((nI kb = (4 : Int32) → X_X6_isOf G (fun w12 s11 => ((w12 = 0 → X_X0_findBy_59 G Q s11) ∧ (¬ w12 = 0 → ∀ s13, s13 = sI s11 x 11 (nI b) → (bz (1 : Int32) ∧ Q (1 : Int32) s13)))) sd (nI o) (mI κ (mR κ (sd + 5 + 5 * t) b) 8) (mg κ ρ1)) ∧ (¬ nI kb = (4 : Int32) → X_X0_findBy_59 G Q (mg κ ρ1))) → X_X0_findBy G Q 7 x (mg κ ρ1) := fun ρ1 Q hh => by
              refine fbC ρ1 Q ?_
              rw [ef, eb]
              refine c_mbAt1 hG hC hs q1 h12 ht nt.1 lt16.2.1 hb (brF (by omega) ⟨gx', ?_⟩)
              rw [mI_c (by omega), kb2, mR_c (by decide), h71, mI_c (by omega), b2, mI_c (by omega)]
              exact ⟨fun e => ⟨hT.1.1, hh.1 e⟩, hh.2⟩
            by_cases h44 : kb = 4
            · subst h44
              have tb8 := d1 p b (by omega) p2 p3 ⟨4, by decide, by decide, by rw [← p6]; exact kb3⟩
              have tp := d2 t b p ht hb (by omega) p4
              rw [← p5, ← tp] at tb8
              obtain ⟨w1, w2⟩ := tb8
              rcases w2 with w2 | ⟨t', ht', w2⟩
              · refine bad (fun ρ1 Q hQ => fb2 ρ1 Q (brT rfl ?_)) (fun κ1 Q K K2 hh => ?_)
                · rw [w1, w2]
                  exact c_isOfN hs hT hK q1 h12 (p := dpar ρ) (fun c hc => (hB.1 c hc).1.2.1) hB.par hcn (br0 ⟨bz0, hQ⟩)
                · simp (disch := omega) only [X_X12_readClasses_204_s, mI_m, mR_m, mJ_m, sI_m, sJ_m, hM.1, hM.2, hm.1, hm.2, e87, ek', kd3, o4, t2, z0, n16, n4, n13, sub, pk_mul, nI_add, nI_1, lT, lF, tT, tF, eF, pF, zT, m1F, vT, cI, true_and, and_true, true_implies, false_implies, not_false_eq_true, not_true_eq_false, forall_eq, implies_true]
                  refine m_mbNamed hM hm (by omega) nt.2 lt16.2.1 ?_
                  rw [eb]
                  simp (disch := omega) only [mI_m, mR_m, mJ_m, sI_m, sJ_m, hM.1, hM.2, hm.1, hm.2, t2, nI_add, pk_mul, kb3, w2, m1t, eT, lT, lF, tT, tF, eF, pF, zT, m1F, vT, cI, true_and, and_true, true_implies, false_implies, not_false_eq_true, not_true_eq_false, forall_eq, implies_true]
                  exact hh
              · by_cases hisa : isa (dpar ρ) o t' = true
                · refine Or.inr ⟨_, _, h.by hcn how hmc ht (by rw [ek']; exact kd3) (by rw [ek']; exact t2) hb kb3, fun ρ1 Q hh => Lw.stp (fun K hK' => stC ρ1 Q K ?_) hh, fun κ1 Q K hh => Lw.stp (fun K2 hK' => ?_) hh⟩
                  · rw [if_pos (by omega)]
                    refine br1 (brF t8 ?_)
                    unfold X_X0_checkLeads_51
                    rw [mI_c (by omega), c2]
                    refine ⟨gx, brT rfl ⟨hL.1.2.2.2.2.2.2.2.2.2.2.1, fb2 ρ1 _ (brT rfl ?_)⟩⟩
                    rw [w1, w2]
                    refine c_isOf hs hT hK q1 h12 (p := dpar ρ) (fun c hc => (hB.1 c hc).1.2.1) hB.par hcn (by omega) (fun _ => br1 ?_) (fun e => by rw [hisa] at e; cases e)
                    intro s13 hs13
                    subst hs13
                    refine ⟨bz1, br1 ?_⟩
                    rw [← ex, ei2] at hK'
                    simp (disch := omega) only [X_X0_checkLeads_80, sI_c, nI_1]
                    exact hK'
                  · simp (disch := omega) only [X_X12_readClasses_204_s, mI_m, mR_m, mJ_m, sI_m, sJ_m, hM.1, hM.2, hm.1, hm.2, e87, ek', kd3, o4, t2, z0, n16, n4, n13, sub, pk_mul, nI_add, nI_1, lT, lF, tT, tF, eF, pF, zT, m1F, vT, cI, true_and, and_true, true_implies, false_implies, not_false_eq_true, not_true_eq_false, forall_eq, implies_true]
                    refine m_mbNamed hM hm (by omega) nt.2 lt16.2.1 ?_
                    rw [eb]
                    simp (disch := omega) only [mI_m, mR_m, mJ_m, sI_m, sJ_m, hM.1, hM.2, hm.1, hm.2, t2, nI_add, pk_mul, kb3, w2, eT, lT, lF, tT, tF, eF, pF, zT, m1F, vT, cI, true_and, and_true, true_implies, false_implies, not_false_eq_true, not_true_eq_false, forall_eq, implies_true]
                    refine m_isA13 hM hm hB.par h12 hcn (by omega) (fun _ => br1 ?_) (fun e => by rw [hisa] at e; cases e)
                    simp (disch := omega) only [X_X12_readClasses_393, mI_m, mR_m, mJ_m, sI_m, sJ_m, hM.1, hM.2, hm.1, hm.2, nI_1, lT, lF, tT, tF, eF, pF, zT, m1F, vT, cI, true_and, and_true, true_implies, false_implies, not_false_eq_true, not_true_eq_false, forall_eq, implies_true, I_is, I_cl, I_sl, J_is, J_cl, J_sl, R_is, R_cl, R_sl, mI_sJ, mI_sR, mJ_sI, mJ_sR, mR_sI, mR_sJ]
                    rw [ek'] at hK'
                    exact hK'
                · have hisa : isa (dpar ρ) o t' = false := by cases e : isa (dpar ρ) o t'; rfl; exact absurd e hisa
                  refine bad (fun ρ1 Q hQ => fb2 ρ1 Q (brT rfl ?_)) (fun κ1 Q K K2 hh => ?_)
                  · rw [w1, w2]
                    exact c_isOf hs hT hK q1 h12 (p := dpar ρ) (fun c hc => (hB.1 c hc).1.2.1) hB.par hcn (by omega) (fun e => by rw [hisa] at e; cases e) (fun _ => br0 ⟨bz0, hQ⟩)
                  · simp (disch := omega) only [X_X12_readClasses_204_s, mI_m, mR_m, mJ_m, sI_m, sJ_m, hM.1, hM.2, hm.1, hm.2, e87, ek', kd3, o4, t2, z0, n16, n4, n13, sub, pk_mul, nI_add, nI_1, lT, lF, tT, tF, eF, pF, zT, m1F, vT, cI, true_and, and_true, true_implies, false_implies, not_false_eq_true, not_true_eq_false, forall_eq, implies_true]
                    refine m_mbNamed hM hm (by omega) nt.2 lt16.2.1 ?_
                    rw [eb]
                    simp (disch := omega) only [mI_m, mR_m, mJ_m, sI_m, sJ_m, hM.1, hM.2, hm.1, hm.2, t2, nI_add, pk_mul, kb3, w2, eT, lT, lF, tT, tF, eF, pF, zT, m1F, vT, cI, true_and, and_true, true_implies, false_implies, not_false_eq_true, not_true_eq_false, forall_eq, implies_true]
                    exact m_isA13 hM hm hB.par h12 hcn (by omega) (fun e => by rw [hisa] at e; cases e) (fun _ => br0 hh)
            · have nk : ¬ nI kb = (4 : Int32) := fun e => h44 ((eI (by omega) (by omega)).mp e)
              refine bad (fun ρ1 Q hQ => fb2 ρ1 Q (brF nk ⟨bz0, hQ⟩)) (fun κ1 Q K K2 hh => ?_)
              simp (disch := omega) only [X_X12_readClasses_204_s, mI_m, mR_m, mJ_m, sI_m, sJ_m, hM.1, hM.2, hm.1, hm.2, e87, ek', kd3, o4, t2, z0, n16, n4, n13, sub, pk_mul, nI_add, nI_1, lT, lF, tT, tF, eF, pF, zT, m1F, vT, cI, true_and, and_true, true_implies, false_implies, not_false_eq_true, not_true_eq_false, forall_eq, implies_true]
              refine m_mbNamed hM hm (by omega) nt.2 lt16.2.1 ?_
              rw [eb]
              simp (disch := omega) only [mI_m, mR_m, mJ_m, sI_m, sJ_m, hM.1, hM.2, hm.1, hm.2, t2, nI_add, pk_mul, kb3, lT, lF, tT, tF, eF, pF, zT, m1F, vT, cI, true_and, and_true, true_implies, false_implies, not_false_eq_true, not_true_eq_false, forall_eq, implies_true]
              exact hh
        · refine Or.inr ⟨κ, ρ, h.more fun _ kd2 y1 y2 y3 => ?_, fun ρ1 Q hh => Lw.stp (fun K hK' => stC ρ1 Q K ?_) hh, fun κ1 Q K hh => Lw.stp (fun K2 hK' => ?_) hh⟩
          · rw [ek', kd3] at y1
            have := (eI (by omega) (by omega)).mp y1
            exact ⟨t, ht, by rw [ek']; exact t2, fun e => by omega⟩
          · rw [if_pos (by omega)]
            refine br1 (brF t8 (at51 ρ1 Q K h5 ?_))
            rw [← ei2]; exact hK'
          · have e4 : kd' = 4 := by omega
            subst e4
            simp (disch := omega) only [X_X12_readClasses_204_s, X_X12_readClasses_393, mI_m, mR_m, mJ_m, sI_m, sJ_m, hM.1, hM.2, hm.1, hm.2, e87, ek', kd3, o4, t2, z0, n16, n4, n13, sub, pk_mul, nI_add, nI_1, lT, lF, tT, tF, eF, pF, zT, m1F, vT, cI, true_and, and_true, true_implies, false_implies, not_false_eq_true, not_true_eq_false, forall_eq, implies_true]
            exact hK'
  · have eo : o ≠ c := fun e => how (o7.mp e)
    have ei2 : idx ow tb c (m + 1) = idx ow tb c m := by unfold idx; omega
    refine Or.inr ⟨κ, ρ, h.more fun h => absurd h how, fun ρ1 Q hh => by rw [ei2] at hh; exact hh, fun κ1 Q K hh => Lw.stp (fun K2 hK' => ?_) hh⟩
    by_cases h4 : kd < 4
    · simp (disch := omega) only [X_X12_readClasses_204_s, X_X12_readClasses_393, mI_m, mR_m, mJ_m, sI_m, sJ_m, hM.1, hM.2, hm.1, hm.2, e87, ek', kd3, n16, n4, pk_mul, nI_add, nI_1, lT, lF, tT, tF, eF, pF, zT, m1F, vT, cI, true_and, and_true, true_implies, false_implies, not_false_eq_true, not_true_eq_false, forall_eq, implies_true]
      exact hK'
    · simp (disch := omega) only [X_X12_readClasses_204_s, X_X12_readClasses_393, mI_m, mR_m, mJ_m, sI_m, sJ_m, hM.1, hM.2, hm.1, hm.2, e87, ek', kd3, o4, n16, n4, n13, sub, pk_mul, nI_add, nI_1, lT, lF, tT, tF, eF, pF, zT, m1F, vT, cI, true_and, and_true, true_implies, false_implies, not_false_eq_true, not_true_eq_false, forall_eq, implies_true]
      exact hK'
end CHK
