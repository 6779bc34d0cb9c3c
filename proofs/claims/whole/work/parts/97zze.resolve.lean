/-! all that is meant, side by side -/
def DFin (κ0 ρ0 : Mem) (sd n nw : Nat) (mc rt hc ow tb : Nat → Nat) (κ ρ : Mem) : Prop := CkS κ0 ρ0 sd n nw mc rt hc ow tb n 0 κ ρ ∧ ∀ c m o, c < n → m < mc c → o < 12 → mI ρ 1296 (16 * (13 + c) + m) = nI o → mI ρ 1295 (16 * (13 + c) + m) = mI ρ 1295 (16 * (13 + o) + m)
section RES
variable {G : Lay} {κ0 ρ0 κ κ' ρ ρ' ρ1 κ1 : Mem} {sd s n nw c m t o b z T : Nat} {B : Nat → Nat} {mc rt hc ow tb : Nat → Nat} {v : Int64} {Q : Int32 → Mem → Prop}
theorem j_chkIn (hG : Ly G) (hcn : c < n) : ∀ d m κ ρ, mc c - m = d → m ≤ mc c → CkS κ0 ρ0 sd n nw mc rt hc ow tb c m κ ρ → (∃ κ' ρ', Fl κ0 ρ0 sd κ' ρ' ∧ (∀ ρ1 (Q : Int32 → Mem → Prop), Q 0 (mg κ' ρ1) → Lw (X_X0_checkLeads_2_s G Q 7) (nI (idx ow tb c m), mg κ ρ1)) ∧ ∀ κ1 (Q : Int32 → Mem → Prop) (K : Int32 × Mem → Prop), Q 0 (mg κ1 ρ') → Lw (X_X12_readClasses_204_s G Q K 1282 (nI (13 + c))) (nI m, mg κ1 ρ)) ∨ ∃ κ' ρ', CkS κ0 ρ0 sd n nw mc rt hc ow tb (c + 1) 0 κ' ρ' ∧ (∀ ρ1 (Q : Int32 → Mem → Prop), Lw (X_X0_checkLeads_2_s G Q 7) (nI (idx ow tb (c + 1) 0), mg κ' ρ1) → Lw (X_X0_checkLeads_2_s G Q 7) (nI (idx ow tb c m), mg κ ρ1)) ∧ ∀ κ1 (Q : Int32 → Mem → Prop) (K : Int32 × Mem → Prop), K (nI (13 + (c + 1)), mg κ1 ρ') → Lw (X_X12_readClasses_204_s G Q K 1282 (nI (13 + c))) (nI m, mg κ1 ρ) := by
  intro d
  induction d with
  | zero =>
    intro m κ ρ hd hm h
    have em : m = mc c := by omega
    subst em
    obtain ⟨a1, a2, a3, a4, a5, a6⟩ := id h
    have law := a4.1.2.1.2 c hcn
    have h12 := a4.1.2.2.1
    refine Or.inr ⟨κ, ρ, ⟨a1, a2, a3, a4, a5, fun c' m' h1 h2 h3 h4 => a6 c' m' (lexS h1 h4) h2 h3 h4⟩, fun ρ1 Q hh => ?_, fun κ1 Q K hK => Lw.fin (fun K2 => ?_)⟩
    · rw [show idx ow tb c (mc c) = idx ow tb (c + 1) 0 by unfold idx; omega]; exact hh
    · have hM := hG.2.2.2
      have hm := a1.2
      have e87 := (a4.2.1 c hcn).1.2
      simp (disch := omega) only [X_X12_readClasses_204_s, mI_m, mR_m, mJ_m, sI_m, sJ_m, hM.1, hM.2, hm.1, hm.2, e87, nI_add, nI_1, lT, lF, tT, tF, eF, pF, zT, m1F, vT, cI, true_and, and_true, true_implies, false_implies, not_false_eq_true, not_true_eq_false, forall_eq, implies_true]
      rw [show 13 + c + 1 = 13 + (c + 1) by omega]
      exact hK
  | succ d ih =>
    intro m κ ρ hd hm h
    rcases j_chk1 hG h hcn (by omega) with hh | ⟨κ2, ρ2, h2, fC, fM⟩
    · exact Or.inl hh
    · rcases ih (m + 1) κ2 ρ2 (by omega) (by omega) h2 with ⟨κ3, ρ3, x1, x2, x3⟩ | ⟨κ3, ρ3, x1, x2, x3⟩
      · exact Or.inl ⟨κ3, ρ3, x1, fun ρ1 Q hQ => fC ρ1 Q (x2 ρ1 Q hQ), fun κ1 Q K hQ => fM κ1 Q K (x3 κ1 Q K hQ)⟩
      · exact Or.inr ⟨κ3, ρ3, x1, fun ρ1 Q hQ => fC ρ1 Q (x2 ρ1 Q hQ), fun κ1 Q K hQ => fM κ1 Q K (x3 κ1 Q K hQ)⟩
theorem j_chkAll (hG : Ly G) : ∀ d c κ ρ, n - c = d → c ≤ n → CkS κ0 ρ0 sd n nw mc rt hc ow tb c 0 κ ρ → (∃ κ' ρ', Fl κ0 ρ0 sd κ' ρ' ∧ (∀ ρ1 (Q : Int32 → Mem → Prop), Q 0 (mg κ' ρ1) → Lw (X_X0_checkLeads_2_s G Q 7) (nI (idx ow tb c 0), mg κ ρ1)) ∧ ∀ κ1 (Q : Int32 → Mem → Prop), Q 0 (mg κ1 ρ') → Lw (X_X12_readClasses_191_s G Q 1282) (nI (13 + c), mg κ1 ρ)) ∨ ∃ κ' ρ', CkS κ0 ρ0 sd n nw mc rt hc ow tb n 0 κ' ρ' ∧ (∀ ρ1 (Q : Int32 → Mem → Prop), Q 1 (mg κ' ρ1) → Lw (X_X0_checkLeads_2_s G Q 7) (nI (idx ow tb c 0), mg κ ρ1)) ∧ ∀ κ1 (Q : Int32 → Mem → Prop), X_X12_readClasses_408 G Q 1282 13 (mg κ1 ρ') → Lw (X_X12_readClasses_191_s G Q 1282) (nI (13 + c), mg κ1 ρ) := by
  have hL := hG.1
  have hM := hG.2.2.2
  have n13 : (13 : Int32) = nI 13 := rfl
  intro d
  induction d with
  | zero =>
    intro c κ ρ hd hcn h
    have em : c = n := by omega
    subst em
    obtain ⟨⟨hC, hm⟩, a2, ⟨h71, hs⟩, a4, a5, a6⟩ := id h
    have hT := hG.s hs
    obtain ⟨hB, hN, ⟨q1, q2, q3⟩, q4, q5⟩ := id a4
    have h12 := hB.2.2.1
    have le := hB.2.1.le c (Nat.le_refl _)
    refine Or.inr ⟨κ, ρ, h, fun ρ1 Q hQ => Lw.fin (fun K => ?_), fun κ1 Q hQ => Lw.fin (fun K => ?_)⟩
    · rw [show idx ow tb c 0 = tb c by unfold idx; omega]
      simp (disch := omega) only [X_X0_checkLeads_2_s, mI_c, mR_c, mJ_c, sI_c, sJ_c, sR_c, hL.1, hL.2.1, hL.2.2, hC.1, hC.2.1, hC.2.2.1, hT.1, h71, q2, bzT1, lT, lF, tT, tF, eF, pF, zT, m1F, vT, cI, true_and, and_true, true_implies, false_implies, not_false_eq_true, not_true_eq_false, forall_eq, implies_true]
      exact hQ
    · simp (disch := omega) only [X_X12_readClasses_191_s, mI_m, mR_m, mJ_m, sI_m, sJ_m, hM.1, hM.2, hm.1, hm.2, q4, n13, nI_add, lT, lF, tT, tF, eF, pF, zT, m1F, vT, cI, true_and, and_true, true_implies, false_implies, not_false_eq_true, not_true_eq_false, forall_eq, implies_true]
      exact hQ
  | succ d ih =>
    intro c κ ρ hd hcn h
    obtain ⟨⟨hC, hm⟩, a2, ⟨h71, hs⟩, a4, a5, a6⟩ := id h
    obtain ⟨hB, hN, ⟨q1, q2, q3⟩, q4, q5⟩ := id a4
    have h12 := hB.2.2.1
    have st : ∀ κ1 (Q : Int32 → Mem → Prop) (K : Int32 × Mem → Prop), Lw (X_X12_readClasses_204_s G Q K 1282 (nI (13 + c))) (nI 0, mg κ1 ρ) → X_X12_readClasses_191_s G Q 1282 K (nI (13 + c), mg κ1 ρ) := fun κ1 Q K hh => by
      simp (disch := omega) only [X_X12_readClasses_191_s, mI_m, mR_m, mJ_m, sI_m, sJ_m, hM.1, hM.2, hm.1, hm.2, q4, n13, nI_add, lT, lF, tT, tF, eF, pF, zT, m1F, vT, cI, true_and, and_true, true_implies, false_implies, not_false_eq_true, not_true_eq_false, forall_eq, implies_true]
      exact hh
    rcases j_chkIn hG (show c < n by omega) (mc c) 0 κ ρ (by omega) (by omega) h with ⟨κ2, ρ2, x1, x2, x3⟩ | ⟨κ2, ρ2, x1, x2, x3⟩
    · exact Or.inl ⟨κ2, ρ2, x1, x2, fun κ1 Q hQ => Lw.fin (fun K => st κ1 Q K (x3 κ1 Q K hQ))⟩
    · rcases ih (c + 1) κ2 ρ2 (by omega) (by omega) x1 with ⟨κ3, ρ3, y1, y2, y3⟩ | ⟨κ3, ρ3, y1, y2, y3⟩
      · exact Or.inl ⟨κ3, ρ3, y1, fun ρ1 Q hQ => x2 ρ1 Q (y2 ρ1 Q hQ), fun κ1 Q hQ => Lw.stp (fun K hK => st κ1 Q K (x3 κ1 Q K hK)) (y3 κ1 Q hQ)⟩
      · exact Or.inr ⟨κ3, ρ3, y1, fun ρ1 Q hQ => x2 ρ1 Q (y2 ρ1 Q hQ), fun κ1 Q hQ => Lw.stp (fun K hK => st κ1 Q K (x3 κ1 Q K hK)) (y3 κ1 Q hQ)⟩
theorem j_resolve (hG : Ly G) (hP : PS κ0 ρ0 sd B z T κ ρ T) (hR : DRf sd n nw mc rt hc ow tb κ ρ) : ∃ r κ' ρ', (∀ ρ1 (Q : Int32 → Mem → Prop), Q r (mg κ' ρ1) → X_X0_readClasses_74 G Q 7 (mg κ ρ1)) ∧ (∀ κ1 (Q : Int32 → Mem → Prop), Q r (mg κ1 ρ') → X_X12_readClasses_54 G Q 1282 13 (mg κ1 ρ)) ∧ ((r = 0 ∧ Fl κ0 ρ0 sd κ' ρ') ∨ (r = 1 ∧ DFin κ0 ρ0 sd n nw mc rt hc ow tb κ' ρ')) := by
  have hL := hG.1
  have hM := hG.2.2.2
  obtain ⟨⟨hC, hm⟩, -, ⟨fC0, fM0⟩, h71, hs⟩ := id hP
  have hB := hR.1
  have h12 := hB.2.2.1
  have law := hB.2.1
  have le := law.le n (Nat.le_refl _)
  have g1 : gT G 7 = 1 := hL.1.2.2.2.2.2.2.2.2.2.2.1
  obtain ⟨κa, ra, hCa, fra, ta⟩ := c_findTargets hG hC hR hs h71
  have hRa : DRf sd n nw mc rt hc ow tb κa ρ := hR.fr2 (fra.mo fun a k hh => by unfold rsC at hh; omega) Eqv.rf
  obtain ⟨ρb, ⟨hmb, frb, fb⟩, rb⟩ := m_pass1 hM hm hRa
  have hRb : DRf sd n nw mc rt hc ow tb κa ρb := hRa.fr2 Eqv.rf (frb.mo fun a k hh => by unfold rsM at hh; omega)
  obtain ⟨ρc, ⟨hmc, frc, fo, fc⟩, rc⟩ := m_pass2 hM hmb hRb
  have hRc : DRf sd n nw mc rt hc ow tb κa ρc := hRb.fr2 Eqv.rf (frc.mo fun a k hh => hh)
  have g90 : ∀ k, mI ρc 1290 k = mI ρ 1290 k := fun k => (frc.I (by omega)).trans (frb.I (by omega))
  have g96 : ∀ k, mI ρc 1296 k = mI ρb 1296 k := fun k => frc.I (by omega)
  have hT : DTg sd n mc ow tb κa ρc := by
    refine ⟨fun c m h1 h2 h3 h4 => ?_, fun c m o h1 h2 h3 h4 => ?_⟩
    · rw [g90] at h4
      have lt := law.lt h1 h2 h3
      have e96 : mI ρ 1296 (16 * (13 + c) + m) = nI c := ((hB.1 c h1).2.2.1 m h2 h3).2.1.2
      obtain ⟨kd, f, w, ⟨a1, a2, a3⟩, -⟩ := ((hB.1 c h1).2.2.1 m h2 h3).2.2.2
      have e1 : mI ρc 1291 (16 * (13 + c) + m) = tgM ρ n (16 * (13 + c) + m) := (fo c m h1 h2 h3).1.trans (fb c m (Or.inl h1) h1 h3 e96 h4)
      have e2 : mI κa (sd + 64 + tb c + (m - ow c)) 8 = tgC κ sd n (sd + 64 + tb c + (m - ow c)) := by
        have := ta (tb c + (m - ow c)) lt (by
          obtain ⟨k2, k3, k4, k5⟩ := h4
          rw [a3] at k5
          have := (eI (by omega) (by omega)).mp k5
          exact ⟨kd, by omega, a1, by rw [show sd + 64 + (tb c + (m - ow c)) = sd + 64 + tb c + (m - ow c) by omega]; exact a2⟩)
        rw [show sd + 64 + (tb c + (m - ow c)) = sd + 64 + tb c + (m - ow c) by omega] at this
        exact this
      refine ⟨by rw [e1, e2]; exact hB.tg h1 h2 h3 h4, ?_⟩
      rw [e1]
      rcases fdx_cases (f := fun j => mJ ρ 1284 (13 + j)) (v := mJ ρ 1297 (16 * (13 + c) + m)) n (by omega) with ⟨e, -⟩ | ⟨t, ht, e, -⟩
      · exact Or.inl e
      · exact Or.inr ⟨t, ht, e⟩
    · rw [g96] at h4
      obtain ⟨p, p1, p2, p3, p4, -⟩ := hRb.1.owner h1 h2
      have e : p = o := (eI (by omega) (by omega)).mp (p4.symm.trans h4)
      subst e
      rw [(fc c m p (Or.inl h1) h1 h2 h3 h4).1, (fo p m (by omega) p2 p3).1]
  have hS : CkS κ0 ρ0 sd n nw mc rt hc ow tb 0 0 κa ρc := by
    refine ⟨⟨hCa, hmc⟩, ⟨fC0.tr (fra.mo fun a k hh => by unfold dpC at hh; omega), (fM0.tr (frb.mo fun a k hh => ?_)).tr (frc.mo fun a k hh => ?_)⟩, ⟨(fra.R (by omega)).trans h71, hs⟩, hRc, hT, fun c m h1 => by omega⟩
    · unfold dpM upM at hh; omega
    · unfold dpM upM at hh; omega
  have e0 : idx ow tb 0 0 = 0 := by unfold idx; rw [law.1]; omega
  have goC : ∀ ρ1 (Q : Int32 → Mem → Prop), Lw (X_X0_checkLeads_2_s G (fun w4 s3 => (bz w4 ∧ Q w4 s3)) 7) (nI (idx ow tb 0 0), mg κa ρ1) → X_X0_readClasses_74 G Q 7 (mg κ ρ1) := fun ρ1 Q hh => by
    rw [e0] at hh
    exact ⟨g1, ra ρ1 _ hh⟩
  have goM : ∀ κ1 (Q : Int32 → Mem → Prop), Lw (X_X12_readClasses_191_s G Q 1282) (nI (13 + 0), mg κ1 ρc) → X_X12_readClasses_54 G Q 1282 13 (mg κ1 ρ) := fun κ1 Q hh => rb κ1 Q (rc κ1 Q hh)
  rcases j_chkAll hG n 0 κa ρc (by omega) (by omega) hS with ⟨κ2, ρ2, x1, x2, x3⟩ | ⟨κ2, ρ2, x1, x2, x3⟩
  · exact ⟨0, κ2, ρ2, fun ρ1 Q hQ => goC ρ1 Q (x2 ρ1 _ ⟨bz0, hQ⟩), fun κ1 Q hQ => goM κ1 Q (x3 κ1 Q hQ), Or.inl ⟨rfl, x1⟩⟩
  · obtain ⟨⟨hC2, hm2⟩, ⟨f2, f2'⟩, ⟨h712, -⟩, hR2, ⟨d1, d2⟩, d3⟩ := id x1
    obtain ⟨ρd, ⟨hmd, frd, fod, fd⟩, rd⟩ := m_pass4 hM hm2 hR2
    have hRd : DRf sd n nw mc rt hc ow tb κ2 ρd := hR2.fr2 Eqv.rf (frd.mo fun a k hh => hh)
    have k90 : ∀ k, mI ρd 1290 k = mI ρ2 1290 k := fun k => frd.I (by omega)
    have k96 : ∀ k, mI ρd 1296 k = mI ρ2 1296 k := fun k => frd.I (by omega)
    have ownO : ∀ c m o, c < n → m < mc c → o < 12 → mI ρ2 1296 (16 * (13 + c) + m) = nI o → o < n ∧ ow o ≤ m ∧ m < mc o := fun c m o h1 h2 h3 h4 => by
      obtain ⟨p, p1, p2, p3, p4, -⟩ := hR2.1.owner h1 h2
      have e : p = o := (eI (by omega) (by omega)).mp (p4.symm.trans h4)
      subst e
      exact ⟨by omega, p2, p3⟩
    refine ⟨1, κ2, ρd, fun ρ1 Q hQ => goC ρ1 Q (x2 ρ1 _ ⟨bz1, hQ⟩), fun κ1 Q hQ => goM κ1 Q (x3 κ1 Q (rd κ1 Q hQ)), Or.inr ⟨rfl, ⟨⟨hC2, hmd⟩, ⟨f2, f2'.tr (frd.mo fun a k hh => ?_)⟩, ⟨h712, hs⟩, hRd, ⟨fun c m h1 h2 h3 h4 => ?_, fun c m o h1 h2 h3 h4 => ?_⟩, fun c m h1 h2 h3 h4 kd y1 y2 y3 => ?_⟩, fun c m o h1 h2 h3 h4 => ?_⟩⟩
    · unfold dpM upM at hh; omega
    · rw [k90] at h4
      rw [(fod c m h1 h2 h3).1]
      exact d1 c m h1 h2 h3 h4
    · rw [k96] at h4
      obtain ⟨z1, z2, z3⟩ := ownO c m o h1 h2 h3 h4
      rw [(fd c m o (Or.inl h1) h1 h2 h3 h4).1, (fod o m z1 z2 z3).1]
    · rw [k90] at y1
      obtain ⟨t, t1, t2, t3⟩ := d3 c m h1 h2 h3 h4 kd y1 y2 y3
      refine ⟨t, t1, by rw [(fod c m h2 h3 h4).1]; exact t2, fun e => ?_⟩
      obtain ⟨b, b1, b2, b3, b4⟩ := t3 e
      exact ⟨b, b1, b2, by rw [(fod c m h2 h3 h4).2]; exact b3, by rw [k90]; exact b4⟩
    · rw [k96] at h4
      obtain ⟨z1, z2, z3⟩ := ownO c m o h1 h2 h3 h4
      rw [(fd c m o (Or.inl h1) h1 h2 h3 h4).2, (fod o m z1 z2 z3).2]
end RES
