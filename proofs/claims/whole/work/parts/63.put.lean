section PUT
variable {G : Lay} {nn sc n r0 : Nat} {mc rt hc K N us : Nat → Nat} {κ κ' ρ ρ' κ1 ρ1 : Mem} {u k : Nat}
/-- a member's value is put -/
theorem RelA.val (hA : RelA nn sc n mc rt hc K N r0 us κ ρ) (hu : u < 4) (ho : mI ρ 1316 u = 1) (hk : k < us u) {c m : Nat} (ec : mI ρ 1322 (60 * u + k) = nI c) (hc1 : c < n) (hm1 : m < mc c) (v : Int32) (hv : mI ρ 1290 (16 * c + m) = 4 → v = 0 ∨ ∃ x t, t < n ∧ mI ρ 1291 (16 * c + m) = nI t ∧ 1 ≤ x ∧ x ≤ K (rt t) ∧ v = nI x) : RelA nn sc n mc rt hc K N r0 us (sI κ (538 + 184 * u + 3 * k) m v) (sI ρ 1324 (16 * (60 * u + k) + m) v) := by
  obtain ⟨⟨hC, hm, hNu⟩, xT, xF, xS, xN, xK, xR, xU, xW, xD, xY, xZ⟩ := id hA
  obtain ⟨o1, o2, o3, o4, o5⟩ := xU.op hu ho
  obtain ⟨t1, t2, t3, t4, t5, t6⟩ := o5 k hk
  have h16 := xS.m16 hc1
  have h12 := xS.le
  obtain ⟨s, f, x, y1, y2, y3, y4, y5, y6, y7, y8, y9, y10⟩ := xZ.1 u hu ho k hk
  refine hA.thing (hC.wI _ _ _) (hm.wI _ _ _) hu ho hk (Eqv.wI (fun h => h (Or.inl (Or.inr (Or.inl rfl)))) _) (Eqv.wI (fun h => h (Or.inl (Or.inr ⟨by decide, by decide, by omega, by omega⟩))) _) ?_ ⟨?_, ?_, ?_, ?_, ?_, fun j hj => ?_⟩ ?_ (I_cl (by decide)) (I_cl (by decide)) (fun h => by rw [I_cl (by decide)] at h; exact h) (fun h => by rw [I_cl (by decide)] at h; exact Or.inl ⟨h, I_cl (by decide)⟩)
  · simp (disch := omega) only [I_cl]; exact o4
  · simp (disch := omega) only [I_cl]; exact t1
  · simp (disch := omega) only [I_cl]; exact t2
  · simp (disch := omega) only [I_cl]; exact t3
  · simp (disch := omega) only [I_cl]; exact t4
  · simp (disch := omega) only [I_cl]; exact t5
  · by_cases e : j = m
    · subst e
      simp (disch := omega) only [I_cl, I_is]
      exact ⟨by trivial, (t6 j hj).2⟩
    · simp (disch := omega) only [I_cl, I_sl]
      exact t6 j hj
  · refine ⟨s, f, x, y1, ?_, y3, ?_, y5, y6, ?_, ?_, fun a1 a2 => ?_, fun a1 => ?_⟩
    · rw [I_cl (by decide)]; exact y2
    · rw [I_cl (by decide)]; exact y4
    · rw [I_cl (by decide)]; exact y7
    · rw [I_cl (by decide)]; exact y8
    · obtain ⟨d, d1, d2, d3, d4, d5⟩ := y9 a1 a2
      have ed : d = c := (eI (by omega) (by omega)).mp (d2.symm.trans ec)
      subst ed
      refine ⟨d, d1, by rw [I_cl (by decide)]; exact d2, d3, fun j j1 j2 => ?_, fun j j1 => ?_⟩
      · rw [I_sl (by omega), I_cl (by decide)]; exact d4 j j1 j2
      · rw [I_cl (a := 1324) (b := 1290) (by decide), I_cl (a := 1324) (b := 1291) (by decide)]
        by_cases e : j = m
        · subst e
          rw [I_is]; exact hv
        · rw [I_sl (by omega)]; exact d5 j j1
    · rw [I_cl (by decide), ]
      refine ⟨(y10 a1).1, fun r hr => ?_⟩
      rw [I_cl (by decide), I_cl (by decide)]
      exact (y10 a1).2 r hr
/-- whether a member of sort k with so many names holds v -/
def holdsB (k : Nat) (w v : Int32) : Prop := k = 0 ∨ k = 1 ∧ ¬ v < -128 ∧ ¬ 127 < v ∨ k = 2 ∧ (v = 0 ∨ v = 1) ∨ k = 3 ∧ ¬ v < 0 ∧ ¬ w ≤ v
theorem c_holds {q j : Nat} {Q : Int32 → Mem → Prop} {v : Int32} (hq : q < 1282) (g3 : gT G q = 3) (hj : j ≤ 5) (e2 : mI κ q 2 = nI j) (k1 : holdsB j (mI κ q 5) v → Q 1 (mg κ ρ1)) (k0 : ¬ holdsB j (mI κ q 5) v → Q 0 (mg κ ρ1)) : X_X2_holds G Q q v (mg κ ρ1) := by
  unfold holdsB at k1 k0
  simp (disch := omega) only [X_X2_holds_55, X_X2_holds_54, X_X2_holds_70, X_X2_holds_65, X_X2_holds_88, X_X2_holds_87, X_X2_holds_0, X_X2_holds, mI_c, g3, e2, true_and, bzT1, bzT0]
  have : j = 0 ∨ j = 1 ∨ j = 2 ∨ j = 3 ∨ j = 4 ∨ j = 5 := by omega
  rcases this with rfl | rfl | rfl | rfl | rfl | rfl
  · refine ⟨fun _ => k1 (Or.inl rfl), fun e => absurd e (by decide), fun e => absurd e (by decide), fun e => absurd e (by decide), fun e => absurd rfl e.1⟩
  · refine ⟨fun e => absurd e (by decide), fun _ => ⟨fun a => k0 (by simp [a]), fun a => ⟨fun b => k0 (by simp [b]), fun b => k1 (Or.inr (Or.inl ⟨rfl, a, b⟩))⟩⟩, fun e => absurd e (by decide), fun e => absurd e (by decide), fun e => absurd rfl e.2.1⟩
  · refine ⟨fun e => absurd e (by decide), fun e => absurd e (by decide), fun _ => ⟨fun a => k1 (Or.inr (Or.inr (Or.inl ⟨rfl, Or.inl a⟩))), fun a => ⟨fun b => k1 (Or.inr (Or.inr (Or.inl ⟨rfl, Or.inr b⟩))), fun b => k0 (by simp [a, b])⟩⟩, fun e => absurd e (by decide), fun e => absurd rfl e.2.2.1⟩
  · refine ⟨fun e => absurd e (by decide), fun e => absurd e (by decide), fun e => absurd e (by decide), fun _ => ⟨fun a => k0 (by simp [a]), fun a => ⟨fun b => k0 (by simp [b]), fun b => k1 (Or.inr (Or.inr (Or.inr ⟨rfl, a, b⟩)))⟩⟩, fun e => absurd rfl e.2.2.2⟩
  · exact ⟨fun e => absurd e (by decide), fun e => absurd e (by decide), fun e => absurd e (by decide), fun e => absurd e (by decide), fun _ => k0 (by simp)⟩
  · exact ⟨fun e => absurd e (by decide), fun e => absurd e (by decide), fun e => absurd e (by decide), fun e => absurd e (by decide), fun _ => k0 (by simp)⟩
theorem m_isValue (hM : LyM G) (hm : StM ρ) {c m j : Nat} {Q : Int32 → Mem → Prop} {v : Int32} (hc1 : c < 12) (hm1 : m < 16) (hj : j ≤ 5) (e2 : mI ρ 1290 (16 * c + m) = nI j) (k1 : holdsB j (mI ρ 1293 (16 * c + m)) v → Q 1 (mg κ1 ρ)) (k0 : ¬ holdsB j (mI ρ 1293 (16 * c + m)) v → Q 0 (mg κ1 ρ)) : X_X12_isValue G Q 1282 (nI c) (nI m) v (mg κ1 ρ) := by
  unfold holdsB at k1 k0
  simp (disch := omega) only [X_X12_isValue_63, X_X12_isValue_62, X_X12_isValue_78, X_X12_isValue_73, X_X12_isValue_99, X_X12_isValue_98, X_X12_isValue_0, X_X12_isValue, show (16 : Int32) = nI 16 from rfl, pk_mul, nI_add, mI_m, mR_m, mJ_m, sI_m, sJ_m, hM.1, hM.2, hm.1, hm.2, cI, vT, e2, true_and, bzT1, bzT0]
  have : j = 0 ∨ j = 1 ∨ j = 2 ∨ j = 3 ∨ j = 4 ∨ j = 5 := by omega
  rcases this with rfl | rfl | rfl | rfl | rfl | rfl
  · refine ⟨fun _ => k1 (Or.inl rfl), fun e => absurd e (by decide), fun e => absurd e (by decide), fun e => absurd e (by decide), fun e => absurd rfl e.1⟩
  · refine ⟨fun e => absurd e (by decide), fun _ => ⟨fun a => k0 (by simp [a]), fun a => ⟨fun b => k0 (by simp [b]), fun b => k1 (Or.inr (Or.inl ⟨rfl, a, b⟩))⟩⟩, fun e => absurd e (by decide), fun e => absurd e (by decide), fun e => absurd rfl e.2.1⟩
  · refine ⟨fun e => absurd e (by decide), fun e => absurd e (by decide), fun _ => ⟨fun a => k1 (Or.inr (Or.inr (Or.inl ⟨rfl, Or.inl a⟩))), fun a => ⟨fun b => k1 (Or.inr (Or.inr (Or.inl ⟨rfl, Or.inr b⟩))), fun b => k0 (by simp [a, b])⟩⟩, fun e => absurd e (by decide), fun e => absurd rfl e.2.2.1⟩
  · refine ⟨fun e => absurd e (by decide), fun e => absurd e (by decide), fun e => absurd e (by decide), fun _ => ⟨fun a => k0 (by simp [a]), fun a => ⟨fun b => k0 (by simp [b]), fun b => k1 (Or.inr (Or.inr (Or.inr ⟨rfl, a, b⟩)))⟩⟩, fun e => absurd rfl e.2.2.2⟩
  · exact ⟨fun e => absurd e (by decide), fun e => absurd e (by decide), fun e => absurd e (by decide), fun e => absurd e (by decide), fun _ => k0 (by simp)⟩
  · exact ⟨fun e => absurd e (by decide), fun e => absurd e (by decide), fun e => absurd e (by decide), fun e => absurd e (by decide), fun _ => k0 (by simp)⟩
theorem memT (hG : Ly G) (hS : RelS sc n mc rt hc κ ρ) {c m : Nat} (hc1 : c < n) (hm1 : m < mc c) : gT G (mR κ (sc + 5 + 5 * c) m) = 3 ∧ mR κ (sc + 5 + 5 * c) m < 531 ∧ 78 ≤ mR κ (sc + 5 + 5 * c) m := by
  have hT2 := hG.s hS.s2
  have hs2 := hS.s2
  obtain ⟨q0, -⟩ := hS.mem hc1 hm1
  have := hT2.2.2 (mR κ (sc + 5 + 5 * c) m - (sc + 64)) (by omega)
  rw [show sc + 64 + (mR κ (sc + 5 + 5 * c) m - (sc + 64)) = mR κ (sc + 5 + 5 * c) m by omega] at this
  exact ⟨this, by omega, by omega⟩
theorem c_memberOf0 {Q : Nat → Mem → Prop} {m : Int32} (q : Q 0 (mg κ ρ1)) : X_X11_memberOf G Q 1 0 m (mg κ ρ1) := by
  simp only [X_X11_memberOf_23, X_X11_memberOf_0, X_X11_memberOf]
  exact brT (by trivial) q
theorem c_memberOf (hG : Ly G) (hC : StC κ) (hS : RelS sc n mc rt hc κ ρ) {Q : Nat → Mem → Prop} (hu : u < 4) (hk : k < 60) {x m : Int32} (ec : mI κ (537 + 184 * u + 3 * k) 4 = x) (q : X_X6_memberAt G Q sc x m (mg κ ρ1)) : X_X11_memberOf G Q 1 (537 + 184 * u + 3 * k) m (mg κ ρ1) := by
  have hL := hG.1
  have hT2 := hG.s hS.s2
  simp (disch := omega) only [X_X11_memberOf_23, X_X11_memberOf_0, X_X11_memberOf, mI_c, mR_c, mJ_c, sI_c, sJ_c, sR_c, hL.1, hL.2.1, hL.2.2, hC.1, hC.2.1, hC.2.2.1, lT, lF, tT, tF, eF, pF, zT, m1F, vT, cI, true_and, and_true, true_implies, false_implies, not_false_eq_true, not_true_eq_false, forall_eq, implies_true, hS.r13, hT2.1, ec]
  exact brF (by omega) q
theorem j_put (hG : Ly G) (h : Rel nn κ ρ) (o y v : Int32) : Jt nn (fun Q σ => X_X11_put G Q 1 o y v σ) (fun Q σ => X_X12_put G Q 1282 o y v σ) κ ρ := by
  obtain ⟨sc, n, mc, rt, hc, K, N, r0, us, hA⟩ := h
  have hL := hG.1
  have hM := hG.2.2.2
  obtain ⟨κ', ρ', hA', hj⟩ := j_live hG hA o
  have hR' : Rel (nn + 1) κ' ρ' := Rel.up ⟨sc, n, mc, rt, hc, K, N, r0, us, hA'⟩
  obtain ⟨⟨hC, hm, hNu⟩, xT, xF, xS, xN, xK, xR, xU, xW, xD, xY, xZ⟩ := id hA'
  rcases hj with ⟨u, k, hu, hk, h60, ho, rfl, hl, c0, d0, -⟩ | ⟨c0, d0⟩
  · obtain ⟨f, f1, f2, c, c1, c2, c3, c4, c5⟩ := hA'.liv hu ho hk hl
    obtain ⟨-, ⟨-, -, -, t4, -⟩, -⟩ := hA'.th hu ho hk
    rw [c2] at t4
    have h12 := xS.le
    have h16 := xS.m16 c1
    have hmc := (xS.cls c1).2.2.2.2.1
    rcases clsCase (mc c) y with ⟨m, hm1, rfl⟩ | hz
    · obtain ⟨g3, g4, g5⟩ := memT hG xS c1 hm1
      obtain ⟨q0, q1, q2, q3, q5, q8, q11⟩ := xS.mem c1 hm1
      obtain ⟨⟨kk, k5, ek, k3, -, kt⟩, -⟩ := xS.mw c1 hm1
      rw [ek] at q2
      by_cases hh : holdsB kk (mI ρ' 1293 (16 * c + m)) v
      · refine ⟨1, _, _, fun ρ1 Q hQ => ?_, fun κ1 Q hQ => ?_, Rel.up ⟨sc, n, mc, rt, hc, K, N, r0, us, hA'.val hu ho hk c2 c1 hm1 v (fun e => ?_)⟩⟩
        · simp (disch := omega) only [X_X11_put_35, X_X11_put_0, X_X11_put, true_and, hL.1]
          refine c0 _ _ (c_memberOf hG hC xS hu (by omega) t4 (c_memberAt1 hG hC xS c1 hm1 (brF (by omega) (brF (by omega) ⟨g3, c_holds (by omega) g3 k5 q2 (fun _ => br1 ?_) (fun e => absurd (by rw [q5]; exact hh) e)⟩))))
          simp (disch := omega) only [mI_c, mR_c, mJ_c, sI_c, sJ_c, sR_c, hL.1, hL.2.1, hL.2.2, hC.1, hC.2.1, hC.2.2.1, lT, lF, tT, tF, eF, pF, zT, m1F, vT, cI, true_and, and_true, true_implies, false_implies, not_false_eq_true, not_true_eq_false, forall_eq, implies_true, bzT1]
          exact hQ
        · simp (disch := omega) only [X_X12_put_48, X_X12_put_0, X_X12_put, true_and, hM.1]
          refine d0 _ _ (brF (pI (by omega)) (brF (pI (by omega)) ?_))
          simp (disch := omega) only [mI_m, mR_m, mJ_m, sI_m, sJ_m, hM.1, hM.2, hm.1, hm.2, lT, lF, tT, tF, eF, pF, zT, m1F, vT, cI, true_and, and_true, true_implies, false_implies, not_false_eq_true, not_true_eq_false, forall_eq, implies_true, c2, hmc]
          refine m_isValue hM hm (by omega) (by omega) k5 ek (fun _ => br1 ?_) (fun e => absurd hh e)
          simp (disch := omega) only [mI_m, mR_m, mJ_m, sI_m, sJ_m, hM.1, hM.2, hm.1, hm.2, nls, lT, lF, tT, tF, eF, pF, zT, e0F, m1F, vT, cI, nI_1, nI_add, pk_mul, true_and, and_true, true_implies, false_implies, not_false_eq_true, not_true_eq_false, bzT1, bzT0, m10, m1z, o0F, forall_eq, implies_true, if_true, if_false]
          exact hQ
        · exfalso
          have : kk = 4 := (eI (b := 4) (by omega) (by decide)).mp (ek.symm.trans e)
          unfold holdsB at hh
          omega
      · refine ⟨0, κ', ρ', fun ρ1 Q hQ => ?_, fun κ1 Q hQ => ?_, hR'⟩
        · simp (disch := omega) only [X_X11_put_35, X_X11_put_0, X_X11_put, true_and, hL.1]
          exact c0 _ _ (c_memberOf hG hC xS hu (by omega) t4 (c_memberAt1 hG hC xS c1 hm1 (brF (by omega) (brF (by omega) ⟨g3, c_holds (by omega) g3 k5 q2 (fun e => absurd (by rw [q5] at e; exact e) hh) (fun _ => br0 ⟨bz0, hQ⟩)⟩))))
        · simp (disch := omega) only [X_X12_put_48, X_X12_put_0, X_X12_put, true_and, hM.1]
          refine d0 _ _ (brF (pI (by omega)) (brF (pI (by omega)) ?_))
          simp (disch := omega) only [mI_m, mR_m, mJ_m, sI_m, sJ_m, hM.1, hM.2, hm.1, hm.2, lT, lF, tT, tF, eF, pF, zT, m1F, vT, cI, true_and, and_true, true_implies, false_implies, not_false_eq_true, not_true_eq_false, forall_eq, implies_true, c2, hmc]
          exact m_isValue hM hm (by omega) (by omega) k5 ek (fun e => absurd e hh) (fun _ => br0 ⟨bz0, hQ⟩)
    · refine ⟨0, κ', ρ', fun ρ1 Q hQ => ?_, fun κ1 Q hQ => ?_, hR'⟩
      · simp (disch := omega) only [X_X11_put_35, X_X11_put_0, X_X11_put, true_and, hL.1]
        exact c0 _ _ (c_memberOf hG hC xS hu (by omega) t4 (c_memberAt0 hG hC xS (Or.inr ⟨c, c1, rfl, hz⟩) (brF (by omega) (brT rfl ⟨bz0, hQ⟩))))
      · simp (disch := omega) only [X_X12_put_48, X_X12_put_0, X_X12_put, true_and, hM.1]
        refine d0 _ _ (brF (pI (by omega)) ?_)
        rcases hz with hz | ⟨m, m1, m2, rfl⟩
        · exact brT hz ⟨bz0, hQ⟩
        · refine brF (pI m2) ?_
          simp (disch := omega) only [mI_m, mR_m, mJ_m, sI_m, sJ_m, hM.1, hM.2, hm.1, hm.2, lT, lF, tT, tF, eF, pF, zT, m1F, vT, cI, true_and, and_true, true_implies, false_implies, not_false_eq_true, not_true_eq_false, forall_eq, implies_true, c2, hmc]
          exact ⟨bz0, hQ⟩
  · refine ⟨0, κ', ρ', fun ρ1 Q hQ => ?_, fun κ1 Q hQ => ?_, hR'⟩
    · simp (disch := omega) only [X_X11_put_35, X_X11_put_0, X_X11_put, true_and, hL.1]
      exact c0 _ _ (c_memberOf0 (brT (by trivial) ⟨bz0, hQ⟩))
    · simp (disch := omega) only [X_X12_put_48, X_X12_put_0, X_X12_put, true_and, hM.1]
      exact d0 _ _ (brT (by decide) ⟨bz0, hQ⟩)
end PUT
