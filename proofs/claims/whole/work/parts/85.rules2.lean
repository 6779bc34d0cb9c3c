/-- the reference's rows: how many, unlike, each of a class -/
def RowsM (n r0 : Nat) (ρ : Mem) : Prop := mI ρ 1282 26 = nI r0 ∧ r0 ≤ 720 ∧ (∀ r r', r < r0 → r' < r0 → mI ρ 1305 r = mI ρ 1305 r' → mI ρ 1306 r = mI ρ 1306 r' → r = r') ∧ ∀ r, r < r0 → ∃ d, d < n ∧ mI ρ 1307 r = nI d
section RULES2
variable {G : Lay} {nn nn' sc n r0 : Nat} {mc rt hc K K' N us : Nat → Nat} {κ κ' ρ ρ' κ1 ρ1 : Mem} {u k : Nat}
theorem m_rowOf1' (hM : LyM G) (hm : StM ρ) (hR : RowsM n r0 ρ) {Q : Int32 → Mem → Prop} {r : Nat} {f x : Int32} (hr : r < r0) (e1 : mI ρ 1305 r = f) (e2 : mI ρ 1306 r = x) (k : Q (nI r) (mg κ1 ρ)) : X_X12_rowOf G Q 1282 f x (mg κ1 ρ) := by
  have h720 := hR.2.1
  unfold X_X12_rowOf X_X12_rowOf_0 X_X12_rowOf_2
  refine Lw.at r (fun K' i hi hk => ?_) (fun K' => ?_)
  · simp (disch := omega) only [X_X12_rowOf_2_s, X_X12_rowOf_32, lT, lF, tT, tF, eF, pF, zT, m1F, vT, cI, true_and, and_true, true_implies, false_implies, not_false_eq_true, not_true_eq_false, forall_eq, implies_true, nI_1, mI_m, mR_m, hM.1, hM.2, hm.1, hm.2, hR.1]
    refine ⟨fun a => ⟨fun b => ?_, fun _ => hk⟩, fun _ => hk⟩
    have := hR.2.2.1 i r (by omega) hr (a.trans e1.symm) (b.trans e2.symm)
    omega
  · simp (disch := omega) only [X_X12_rowOf_2_s, X_X12_rowOf_32, lT, lF, tT, tF, eF, pF, zT, m1F, vT, cI, true_and, and_true, true_implies, false_implies, not_false_eq_true, not_true_eq_false, forall_eq, implies_true, mI_m, mR_m, hM.1, hM.2, hm.1, hm.2, hR.1, e1, e2]
    exact k
theorem own_inh (hS : RelS sc n mc rt hc κ ρ) {o m : Nat} (hm : m < mc o) : ∀ d, d < n → isa (par ρ) d o = true → m < mc d ∧ mI ρ 1296 (16 * d + m) = mI ρ 1296 (16 * o + m) := by
  intro d
  induction d using Nat.strongRecOn with
  | _ d ih =>
    intro hd hi
    by_cases e : d = o
    · subst e; exact ⟨hm, rfl⟩
    · rcases hS.hei hd with ⟨e1, e2⟩ | ⟨p, e1, e2, e3, e4, e5, e6⟩
      · rw [isa_root e1 e] at hi; cases hi
      · rw [isa_up hS.par hS.le hd e1 e2 e] at hi
        obtain ⟨a1, a2⟩ := ih p e1 (by omega) hi
        exact ⟨by omega, (e6 m a1).2.2.2.2.2.trans a2⟩
theorem m_hasMember (hM : LyM G) (hm : StM ρ) (hS : RelS sc n mc rt hc κ ρ) {d o m : Nat} (hd : d < n) (ho : o < n) (hmo : m < mc o) (eo : mI ρ 1296 (16 * o + m) = nI o) {Q : Int32 → Mem → Prop} (k1 : isa (par ρ) d o = true → Q 1 (mg κ1 ρ)) (k0 : isa (par ρ) d o = false → Q 0 (mg κ1 ρ)) : X_X12_hasMember G Q 1282 (nI d) (nI o) (nI m) (mg κ1 ρ) := by
  have h12 := hS.le
  have h16 := hS.m16 hd
  simp (disch := omega) only [X_X12_hasMember_40, X_X12_hasMember_39, X_X12_hasMember_0, X_X12_hasMember, hM.1, true_and, bzT1, bzT0]
  refine m_isA0 hM hm hS.par h12 hd (by omega) (fun e => br1 ?_) (fun e => br0 (k0 e))
  obtain ⟨a1, a2⟩ := own_inh hS hmo d hd e
  rw [eo] at a2
  simp (disch := omega) only [show (16 : Int32) = nI 16 from rfl, pk_mul, nI_add, mI_m, mR_m, hM.1, hM.2, hm.1, hm.2, lT, lF, tT, tF, eF, pF, zT, m1F, vT, cI, true_and, and_true, true_implies, false_implies, not_false_eq_true, not_true_eq_false, forall_eq, implies_true, (hS.cls hd).2.2.2.2.1, a2]
  exact k1 e
/-- a member's turn -/
theorem m_bstep (hG : Ly G) (hm : StM ρ) (hS : RelS sc n mc rt hc κ ρ) (hR : RowsM n r0 ρ) {f c m a lo : Nat} {x v : Int32} (hc1 : c < n) (hf : rt c = f) (hm1 : m < mc c) (ha : 1282 ≤ a) (ga : gT G a = 100) (la : lo + 16 ≤ gL G a) (hlo : lo < 100000) (ev : mI ρ a (lo + m) = v) {Q : Int32 → Mem → Prop} {K' : Int32 × Mem → Prop}
    (q1 : rul r0 rt ρ f x c m v ≠ -1 → Q 1 (mg κ1 (sI (sI ρ 1282 57 (nI m)) 1282 58 (rul r0 rt ρ f x c m v)))) (q0 : rul r0 rt ρ f x c m v = -1 → K' (nI (m + 1), mg κ1 ρ)) : X_X12_broken_3_s G Q 1282 (nI f) x (nI c) a (nI lo) K' (nI m, mg κ1 ρ) := by
  have hM := hG.2.2.2
  have h12 := hS.le
  have h16 := hS.m16 hc1
  have hmc := (hS.cls hc1).2.2.2.2.1
  have h720 := hR.2.1
  have hrc := hS.rt12 hc1
  obtain ⟨⟨kk, k5, ek, k3, ⟨ff, f6, ef, fk1, fk2, fk3⟩, kt⟩, o, o1, o2, o3, o4, o5⟩ := hS.mw hc1 hm1
  have hon : o < n := by omega
  have eo : mI ρ 1296 (16 * o + m) = nI o := (own_inh hS o3 c hc1 o5).2.symm.trans o2
  have dM : ¬ bkM ρ c m v → ¬ bkU r0 ρ f x c m v → rul r0 rt ρ f x c m v = ifp (bkL r0 rt ρ f x c m v) 2 (-1) := fun n1 n2 => by unfold rul; rw [ifp_f n1, ifp_f n2]
  -- to the third rule
  have r207 : ¬ bkM ρ c m v → ¬ bkU r0 ρ f x c m v → kk ≠ 5 → X_X12_broken_207 G Q K' 1282 (nI f) x (nI c) a (nI lo) (nI m) (nI (16 * c + m)) v (mg κ1 ρ) := by
    intro n1 n2 n3
    have dd := dM n1 n2
    have skip : ¬ bkL r0 rt ρ f x c m v → K' (nI m + 1, mg κ1 ρ) := fun h => by
      rw [nI_1]; exact q0 (by rw [dd, ifp_f h])
    have brk : bkL r0 rt ρ f x c m v → X_X12_broken_323 G Q 1282 (nI m) (mg κ1 ρ) := fun h => by
      rw [dd, ifp_t h] at q1
      simp (disch := omega) only [X_X12_broken_323, X_X12_breaks_0, X_X12_breaks, hM.1, sI_m, true_and, forall_eq, bzT1]
      exact q1 (by decide)
    simp (disch := omega) only [X_X12_broken_207, X_X12_broken_331, mI_m, mR_m, hM.1, hM.2, hm.1, hm.2, lT, lF, tT, tF, eF, pF, zT, m1F, vT, cI, true_and, and_true, true_implies, false_implies, not_false_eq_true, not_true_eq_false, forall_eq, implies_true, ek]
    by_cases h4 : kk = 4
    · subst h4
      obtain ⟨t, ht, et, -⟩ := kt (by omega)
      have hrt := hS.rt12 ht
      refine brT rfl ⟨fun e => skip (fun h => h.2.1 e), fun e => ?_⟩
      simp only [et]
      have hb : bkL r0 rt ρ f x c m v ↔ ¬ led r0 rt ρ f x c t v := ⟨fun ⟨_, _, t', h3, h4', h5⟩ => by
        have : t' = t := (eI (by omega) (by omega)).mp (h4'.symm.trans et)
        subst this; exact h5, fun h => ⟨ek, e, t, by omega, et, h⟩⟩
      have r252 : ¬ (rt t = f ∧ v = x) → X_X12_broken_252 G Q K' 1282 (nI f) x (nI c) a (nI lo) (nI m) (nI (16 * c + m)) v (nI (rt t)) (mg κ1 ρ) := by
        intro hn
        simp (disch := omega) only [X_X12_broken_252, X_X12_broken_253, X_X12_broken_272, hM.1, true_and]
        refine brT (by trivial) ?_
        by_cases hrow : ∃ r, r < r0 ∧ mI ρ 1305 r = nI (rt t) ∧ mI ρ 1306 r = v
        · obtain ⟨r, r1, r2, r3⟩ := hrow
          obtain ⟨d, d1, d2⟩ := hR.2.2.2 r r1
          refine m_rowOf1' hM hm hR r1 r2 r3 (brT (by trivial) (brT (Int32.not_lt.mp (pI (by omega))) ?_))
          simp (disch := omega) only [X_X12_broken_299, X_X12_broken_331, mI_m, mR_m, hM.1, hM.2, hm.1, hm.2, lT, lF, tT, tF, eF, pF, zT, m1F, vT, cI, true_and, and_true, true_implies, false_implies, not_false_eq_true, not_true_eq_false, forall_eq, implies_true, d2, et]
          refine m_isA0 hM hm hS.par h12 d1 (by omega) (fun e => br1 (skip (fun h => hb.mp h (Or.inr ⟨hn, r, r1, r2, r3, d, by omega, d2, e⟩)))) (fun e => br0 (brk (hb.mpr (fun h => ?_))))
          rcases h with h | ⟨-, r', b1, b2, b3, d', b4, b5, b6⟩
          · exact hn h.1
          · have er := hR.2.2.1 r' r b1 r1 (b2.trans r2.symm) (b3.trans r3.symm)
            subst er
            have ed : d = d' := (eI (by omega) (by omega)).mp (d2.symm.trans b5)
            subst ed
            rw [e] at b6; cases b6
        · refine m_rowOf0 hM hm hR.1 h720 (fun r r1 h => hrow ⟨r, r1, h.1, h.2⟩) (brT (by trivial) (brF (by decide) ?_))
          simp only [X_X12_broken_299]
          refine brT m1_neg (brk (hb.mpr (fun h => ?_)))
          rcases h with h | ⟨-, r', b1, b2, b3, -⟩
          · exact hn h.1
          · exact hrow ⟨r', b1, b2, b3⟩
      refine m_rootOf hM hm hS ht ⟨fun er => ⟨fun evx => ?_, fun evx => r252 (fun h => evx h.2)⟩, fun er => r252 (fun h => er (by rw [h.1]))⟩
      have er' : rt t = f := (eI (by omega) (by omega)).mp er
      simp (disch := omega) only [X_X12_broken_253, X_X12_broken_272, X_X12_broken_299, X_X12_broken_331, o0F, mI_m, mR_m, hM.1, hM.2, hm.1, hm.2, lT, lF, tT, tF, eF, pF, zT, m1F, vT, cI, true_and, and_true, true_implies, false_implies, not_false_eq_true, not_true_eq_false, forall_eq, implies_true, et]
      refine m_isA0 hM hm hS.par h12 hc1 (by omega) (fun e => br1 (skip (fun h => hb.mp h (Or.inl ⟨⟨er', evx⟩, e⟩)))) (fun e => br0 (brk (hb.mpr (fun h => ?_))))
      rcases h with ⟨-, h⟩ | ⟨h, -⟩
      · rw [e] at h; cases h
      · exact h ⟨er', evx⟩
    · exact brF (fun e => h4 ((eI (b := 4) (by omega) (by decide)).mp e)) (skip (fun h => h4 ((eI (b := 4) (by omega) (by decide)).mp (ek.symm.trans h.1))))
  have r83 : ¬ bkM ρ c m v → kk ≠ 5 → X_X12_broken_83 G Q K' 1282 (nI f) x (nI c) a (nI lo) (nI m) (nI (16 * c + m)) v (mg κ1 ρ) := by
    intro n1 n3
    simp (disch := omega) only [X_X12_broken_83, mI_m, mR_m, hM.1, hM.2, hm.1, hm.2, lT, lF, tT, tF, eF, pF, zT, m1F, vT, cI, true_and, and_true, true_implies, false_implies, not_false_eq_true, not_true_eq_false, forall_eq, implies_true, ek, ef]
    refine ⟨fun h4 => r207 n1 (fun h => ?_) n3, fun h4 => ⟨fun h1 => r207 n1 (fun h => h.1 (by rw [ef]; exact h1)) n3, fun h1 => ?_⟩⟩
    · have hk4 : kk = 4 := by
        have := (lI (a := 4) (by decide) (by omega)).mp h4
        omega
      have h1 := h.1
      rw [ef] at h1
      have := fk2 hk4
      have : ff = 0 ∨ ff = 2 ∨ ff = 4 ∨ ff = 6 := by omega
      rcases this with rfl | rfl | rfl | rfl <;> exact h1 (by decide)
    · unfold X_X12_broken_109
      have hU : bkU r0 ρ f x c m v ↔ tkn r0 ρ f x o m v := ⟨fun ⟨_, o', p1, p2, p3⟩ => by
        have : o' = o := (eI (by omega) (by omega)).mp (p2.symm.trans o2)
        subst this; exact p3, fun h => ⟨by rw [ef]; exact h1, o, by omega, o2, h⟩⟩
      refine Lw.nat r0 (fun i y => y = (nI i, mg κ1 ρ) ∧ ∀ j, j < i → ¬ (¬ (mI ρ 1305 j = nI f ∧ mI ρ 1306 j = x) ∧ (∃ d, d < 12 ∧ mI ρ 1307 j = nI d ∧ isa (par ρ) d o = true) ∧ mI ρ 1309 (16 * j + m) = v)) ?_ 0 (Nat.zero_le _) _ ⟨rfl, fun j hj => by omega⟩
      rintro K2 i y hi ⟨rfl, hj⟩ hk
      by_cases hlt : i < r0
      · obtain ⟨d, d1, d2⟩ := hR.2.2.2 i hlt
        have next : (¬ (¬ (mI ρ 1305 i = nI f ∧ mI ρ 1306 i = x) ∧ (∃ d, d < 12 ∧ mI ρ 1307 i = nI d ∧ isa (par ρ) d o = true) ∧ mI ρ 1309 (16 * i + m) = v)) → K2 (nI (i + 1), mg κ1 ρ) := fun hn => hk _ hlt ⟨rfl, fun j hj2 => by
          by_cases e : j = i
          · subst e; exact hn
          · exact hj j (by omega)⟩
        have r144 : ¬ (mI ρ 1305 i = nI f ∧ mI ρ 1306 i = x) → X_X12_broken_144 G Q K' K2 1282 (nI f) x (nI c) a (nI lo) (nI m) (nI (16 * c + m)) v (nI i) (mg κ1 ρ) := by
          intro hs
          simp (disch := omega) only [X_X12_broken_144, X_X12_broken_145, X_X12_broken_201, mI_m, mR_m, hM.1, hM.2, hm.1, hm.2, lT, lF, tT, tF, eF, pF, zT, m1F, vT, cI, true_and, and_true, true_implies, false_implies, not_false_eq_true, not_true_eq_false, forall_eq, implies_true, d2, o2, nI_1]
          refine m_hasMember hM hm hS d1 hon o3 eo (fun e => br1 ?_) (fun e => br0 (next (fun h => ?_)))
          · simp (disch := omega) only [show (16 : Int32) = nI 16 from rfl, pk_mul, nI_add, mI_m, mR_m, hM.1, hM.2, hm.1, hm.2, lT, lF, tT, tF, eF, pF, zT, m1F, vT, cI, true_and, and_true, true_implies, false_implies, not_false_eq_true, not_true_eq_false, forall_eq, implies_true]
            refine ⟨fun e2 => ?_, fun e2 => next (fun h => e2 h.2.2)⟩
            have hrul : rul r0 rt ρ f x c m v = 1 := by
              unfold rul
              rw [ifp_f n1, ifp_t (hU.mpr ⟨i, hlt, hs, ⟨d, by omega, d2, e⟩, e2⟩)]
            rw [hrul] at q1
            simp (disch := omega) only [X_X12_breaks_0, X_X12_breaks, hM.1, sI_m, true_and, forall_eq, bzT1]
            exact q1 (by decide)
          · obtain ⟨-, ⟨d', d0, d1', d2'⟩, -⟩ := h
            have : d = d' := (eI (by omega) (by omega)).mp (d2.symm.trans d1')
            subst this
            rw [e] at d2'; cases d2'
        simp (disch := omega) only [X_X12_broken_109_s, mI_m, mR_m, hM.1, hM.2, hm.1, hm.2, lT, lF, tT, tF, eF, pF, zT, m1F, vT, cI, true_and, and_true, true_implies, false_implies, not_false_eq_true, not_true_eq_false, forall_eq, implies_true, hR.1]
        refine ⟨fun e1 => ⟨fun e2 => ?_, fun e2 => r144 (fun h => e2 h.2)⟩, fun e1 => r144 (fun h => e1 h.1)⟩
        simp (disch := omega) only [X_X12_broken_145, X_X12_broken_201, o0F, lT, lF, tT, tF, eF, pF, zT, m1F, vT, cI, true_and, and_true, true_implies, false_implies, not_false_eq_true, not_true_eq_false, forall_eq, implies_true, nI_1]
        exact next (fun h => h.1 ⟨e1, e2⟩)
      · obtain rfl : i = r0 := by omega
        simp (disch := omega) only [X_X12_broken_109_s, mI_m, hM.1, true_and, hR.1]
        refine brT (Int32.le_refl _) (r207 n1 (fun h => ?_) n3)
        obtain ⟨r, b1, b2, b3, b4⟩ := hU.mp h
        exact hj r b1 ⟨b2, b3, b4⟩
  simp (disch := omega) only [X_X12_broken_3_s, X_X12_broken_331, show (16 : Int32) = nI 16 from rfl, pk_mul, nI_add, mI_m, mR_m, hM.1, hM.2, hm.1, hm.2, lT, lF, tT, tF, eF, pF, zT, m1F, vT, cI, true_and, and_true, true_implies, false_implies, not_false_eq_true, not_true_eq_false, forall_eq, implies_true, hmc, ga, ev, ek, ef]
  refine ⟨(vI (by omega)).mpr (by omega), ?_⟩
  by_cases h5 : kk = 5
  · subst h5
    refine brT rfl ?_
    rw [nI_1]
    refine q0 ?_
    unfold rul
    rw [ifp_f (fun h => absurd (ek.symm.trans h.1) (by decide)), ifp_f (fun h => ?_), ifp_f (fun h => absurd (ek.symm.trans h.1) (by decide))]
    have h1 := h.1
    rw [ef] at h1
    rcases fk3 rfl with rfl | rfl
    · exact h1 (by decide)
    · exact h1 (by decide)
  · refine brF (fun e => h5 ((eI (b := 5) (by omega) (by decide)).mp e)) ⟨fun e4 => ⟨fun e => r83 (fun h => h.2.1 (by rw [ef]; exact e)) h5, fun e => ⟨fun ev0 => ?_, fun ev0 => r83 (fun h => ev0 h.2.2) h5⟩⟩, fun e4 => r83 (fun h => e4 (ek.symm.trans h.1)) h5⟩
    have hrul : rul r0 rt ρ f x c m v = 0 := by
      unfold rul
      rw [ifp_t ⟨ek.trans e4, by rw [ef]; exact e, ev0⟩]
    rw [hrul] at q1
    simp (disch := omega) only [X_X12_breaks_0, X_X12_breaks, hM.1, sI_m, true_and, forall_eq, bzT1]
    exact q1 (by decide)
theorem m_broken1 (hG : Ly G) (hm : StM ρ) (hS : RelS sc n mc rt hc κ ρ) (hR : RowsM n r0 ρ) {f c m0 a lo : Nat} {x : Int32} {w : Nat → Int32} (hc1 : c < n) (hf : rt c = f) (hm0 : m0 < mc c) (ha : 1282 ≤ a) (ga : gT G a = 100) (la : lo + 16 ≤ gL G a) (hlo : lo < 100000) (ev : ∀ m, m < mc c → mI ρ a (lo + m) = w m) (hb : rul r0 rt ρ f x c m0 (w m0) ≠ -1) (hn : ∀ m, m < m0 → rul r0 rt ρ f x c m (w m) = -1) {Q : Int32 → Mem → Prop} (q1 : Q 1 (mg κ1 (sI (sI ρ 1282 57 (nI m0)) 1282 58 (rul r0 rt ρ f x c m0 (w m0))))) : X_X12_broken G Q 1282 (nI f) x (nI c) a (nI lo) (mg κ1 ρ) := by
  unfold X_X12_broken X_X12_broken_0 X_X12_broken_3
  refine Lw.at m0 (fun K' i hi hk => ?_) (fun K' => ?_)
  · exact m_bstep hG hm hS hR hc1 hf (by omega) ha ga la hlo (ev i (by omega)) (fun h => absurd (hn i hi) h) (fun _ => hk)
  · exact m_bstep hG hm hS hR hc1 hf hm0 ha ga la hlo (ev m0 hm0) (fun _ => q1) (fun h => absurd h hb)
theorem m_broken0 (hG : Ly G) (hm : StM ρ) (hS : RelS sc n mc rt hc κ ρ) (hR : RowsM n r0 ρ) {f c a lo : Nat} {x : Int32} {w : Nat → Int32} (hc1 : c < n) (hf : rt c = f) (ha : 1282 ≤ a) (ga : gT G a = 100) (la : lo + 16 ≤ gL G a) (hlo : lo < 100000) (ev : ∀ m, m < mc c → mI ρ a (lo + m) = w m) (hn : ∀ m, m < mc c → rul r0 rt ρ f x c m (w m) = -1) {Q : Int32 → Mem → Prop} (q : Q 0 (mg κ1 ρ)) : X_X12_broken G Q 1282 (nI f) x (nI c) a (nI lo) (mg κ1 ρ) := by
  have hM := hG.2.2.2
  have h12 := hS.le
  unfold X_X12_broken X_X12_broken_0 X_X12_broken_3
  refine Lw.at (mc c) (fun K' i hi hk => ?_) (fun K' => ?_)
  · exact m_bstep hG hm hS hR hc1 hf hi ha ga la hlo (ev i hi) (fun h => absurd (hn i hi) h) (fun _ => hk)
  · simp (disch := omega) only [X_X12_broken_3_s, mI_m, mR_m, hM.1, hM.2, hm.1, hm.2, cI, vT, (hS.cls hc1).2.2.2.2.1, true_and, bzT0]
    exact brT (Int32.le_refl _) q
end RULES2
