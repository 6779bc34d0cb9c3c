theorem sI_sI (σ : Mem) (a k : Nat) (v w : Int32) : sI (sI σ a k v) a k w = sI σ a k w := by
  unfold sI
  refine Prod.ext ?_ rfl
  funext q j
  show (if q = a ∧ j = k then w else if q = a ∧ j = k then v else σ.1 q j) = if q = a ∧ j = k then w else σ.1 q j
  by_cases h : q = a ∧ j = k
  · rw [if_pos h, if_pos h]
  · rw [if_neg h, if_neg h, if_neg h]
/-- the reference with a list of keys -/
def kl (ρ : Mem) (a : Nat → Int32) (t : Nat) : Mem := sI (sA ρ 1327 a) 1282 60 (nI t)
theorem kz_0 (ρ : Mem) : sI ρ 1282 60 0 = kl ρ (mI ρ 1327) 0 := by unfold kl; rw [sA_id]; rfl
theorem kl_add (ρ : Mem) (a b : Nat → Int32) (t t' : Nat) : sI (sA (kl ρ a t) 1327 b) 1282 60 (nI t') = kl ρ b t' := by
  unfold kl
  rw [← sA_sw (by decide), sA_A, sI_sI]
theorem kl_60 (ρ : Mem) (a : Nat → Int32) (t : Nat) : mI (kl ρ a t) 1282 60 = nI t := I_is _ _ _ _
theorem kl_k (ρ : Mem) (a : Nat → Int32) (t : Nat) : mI (kl ρ a t) 1327 = a := by
  funext i
  unfold kl
  rw [I_cl (by decide), sA_is]
theorem kl_cl {ρ : Mem} {a : Nat → Int32} {t q k : Nat} (h : q ≠ 1282) (h2 : q ≠ 1327) : mI (kl ρ a t) q k = mI ρ q k := by
  unfold kl
  rw [I_cl h, sA_cl h2]
theorem kl_sl {ρ : Mem} {a : Nat → Int32} {t k : Nat} (h : k ≠ 60) : mI (kl ρ a t) 1282 k = mI ρ 1282 k := by
  unfold kl
  rw [I_sl h, sA_cl (by decide)]
theorem kl_R (ρ : Mem) (a : Nat → Int32) (t q k : Nat) : mR (kl ρ a t) q k = mR ρ q k := rfl
theorem cnt_mono (g : Nat → Int32) (x : Int32) {i j : Nat} (h : i ≤ j) : cnt g x i ≤ cnt g x j := by
  induction j with
  | zero => obtain rfl : i = 0 := by omega
            exact Nat.le_refl _
  | succ j ih =>
    by_cases e : i = j + 1
    · subst e; exact Nat.le_refl _
    · have h1 := ih (by omega)
      have h2 : cnt g x (j + 1) = cnt g x j + if g j = x then 1 else 0 := rfl
      omega
def PRm (ρ : Mem) (us : Nat → Nat) (u f tt b : Nat) (x : Int32) (r : Nat) : Prop := mI ρ 1305 r = nI f ∧ ∃ d, d < 12 ∧ mI ρ 1307 r = nI d ∧ isa (par ρ) d tt = true ∧ mI ρ 1309 (16 * r + b) = x ∧ told us ρ u (nI f) (mI ρ 1306 r)
section ISL
variable {G : Lay} {nn nn' sc n r0 : Nat} {mc rt hc K K' N us : Nat → Nat} {κ κ' ρ ρ' κ1 ρ1 : Mem} {u k : Nat}
theorem PR_eq (hR : RelR N r0 κ ρ) {f tt b : Nat} {x y : Int32} (hf : f < 12) (hb : b < 16) : (∃ i, i < N f ∧ PRc κ ρ us u f tt b x i ∧ mI κ 271 (60 * f + i) = y) ↔ ∃ r, r < r0 ∧ PRm ρ us u f tt b x r ∧ mI ρ 1306 r = y := by
  constructor
  · rintro ⟨i, hi, ⟨d, d0, d1, d2, d3, d4⟩, e⟩
    obtain ⟨r, hr, w1, w2, w3, w4, w5⟩ := hR.2.2.2.2.1 f hf i hi
    exact ⟨r, hr, ⟨w1, d, d0, w3.symm.trans d1, d2, (w5 b hb).symm.trans d3, by rw [← w2]; exact d4⟩, w2.symm.trans e⟩
  · rintro ⟨r, hr, ⟨q1, d, d0, d1, d2, d3, d4⟩, e⟩
    obtain ⟨g, hg, i, hi, w1, w2, w3, w4, w5⟩ := hR.2.2.2.2.2.1 r hr
    have : g = f := (eI (by omega) (by omega)).mp (w1.symm.trans q1)
    subst this
    exact ⟨i, hi, ⟨d, d0, w3.trans d1, d2, (w5 b hb).trans d3, by rw [w2]; exact d4⟩, w2.trans e⟩
theorem m_isList1 (hG : Ly G) (hA : RelA nn sc n mc rt hc K N r0 us κ ρ) (hu : u < 4) (ho : mI ρ 1316 u = 1) (hk : k < us u) {c m tt b : Nat} {x : Int32} (ec : mI ρ 1322 (60 * u + k) = nI c) (hc1 : c < n) (hm1 : m < mc c) (e5 : mI ρ 1290 (16 * c + m) = nI 5) (htt : tt < n) (hb : b < 16) (e8 : mI ρ 1291 (16 * c + m) = nI tt) (e11 : mI ρ 1295 (16 * c + m) = nI b) (ex : mI ρ 1321 (60 * u + k) = x) :
    ∃ t a, t ≤ 120 ∧ RunM (fun Q σ => X_X12_isList G Q 1282 (nI (60 * u + k)) (nI m) σ) ρ 1 (kl ρ a t) ∧ Srt a t (gS κ ρ N us u (rt tt) tt b x (us u)) := by
  have hM := hG.2.2.2
  obtain ⟨⟨hC, hm, hNu⟩, xT, xF, xS, xN, xK, xR, xU, xW, xD, xY, xZ⟩ := id hA
  have h12 := xS.le
  obtain ⟨o1, o2, o3, o4, o5⟩ := xU.op hu ho
  have hrt := xS.rt12 htt
  have h720 := xR.le
  have h16 := xS.m16 hc1
  have hmc := (xS.cls hc1).2.2.2.2.1
  obtain ⟨f, hf0⟩ : ∃ f, f = rt tt := ⟨_, rfl⟩
  rw [← hf0] at hrt ⊢
  have hf : f < 12 := by omega
  have hN60 := (xR.1 f hf).2
  have hcn := xR.2.2.2.2.2.2.2 f hf
  have stk : ∀ a t, StM (kl ρ a t) := fun a t => (hm.wA _ _).wI _ _ _
  have pk : ∀ a t, ParW (par (kl ρ a t)) n := fun a t c hc => by rw [show par (kl ρ a t) c = par ρ c from kl_cl (by decide) (by decide)]; exact xS.par c hc
  have ik : ∀ a t c d, isa (par (kl ρ a t)) c d = isa (par ρ) c d := fun a t c d => by rw [show par (kl ρ a t) = par ρ from funext fun c => kl_cl (by decide) (by decide)]
  obtain ⟨⟨i1, t1, a1⟩, ⟨e1, ht1, hs1⟩, run1⟩ := Lw.run (α := Int32 × Mem) (β := Nat × Nat × (Nat → Int32)) (ι := (Int32 → Mem → Prop) × Mem) (fun q' => X_X12_isList_92_s G q'.1 1282 (nI (60 * u + k)) (nI u) (nI tt) (nI b) (nI f)) (fun b' q' => (nI b'.1, mg q'.2 (kl ρ b'.2.2 b'.2.1))) r0 (fun i b' => b'.1 = i ∧ b'.2.1 ≤ cnt (fun r => mI ρ 1305 r) (nI f) i ∧ Srt b'.2.2 b'.2.1 (fun y => ∃ r, r < i ∧ PRm ρ us u f tt b x r ∧ mI ρ 1306 r = y)) (by
    rintro i ⟨i0, t, a⟩ hi ⟨rfl, ht, hs⟩
    simp only at ht hs
    have ec1 : cnt (fun r => mI ρ 1305 r) (nI f) (i0 + 1) = cnt (fun r => mI ρ 1305 r) (nI f) i0 + if mI ρ 1305 i0 = nI f then 1 else 0 := rfl
    have mono := cnt_mono (fun r => mI ρ 1305 r) (nI f) (show i0 + 1 ≤ r0 by omega)
    have skip : ¬ PRm ρ us u f tt b x i0 → Srt a t (fun y => ∃ r, r < i0 + 1 ∧ PRm ρ us u f tt b x r ∧ mI ρ 1306 r = y) := fun hn => hs.cg (fun _ _ => rfl) (fun y => ⟨fun ⟨r, a1, a2⟩ => ⟨r, by omega, a2⟩, fun ⟨r, a1, a2, a3⟩ => by
      by_cases e : r = i0
      · subst e; exact absurd a2 hn
      · exact ⟨r, by omega, a2, a3⟩⟩)
    obtain ⟨f', d, x', y1, y2, y3, y4, y5, -⟩ := xY i0 hi
    have sk : ∀ (q' : (Int32 → Mem → Prop) × Mem) (K' : Int32 × Mem → Prop), K' (nI (i0 + 1), mg q'.2 (kl ρ a t)) → X_X12_isList_198 G q'.1 K' 1282 (nI (60 * u + k)) (nI u) (nI tt) (nI b) (nI f) (nI i0) (mg q'.2 (kl ρ a t)) := by
      intro q' K' hK
      simp only [X_X12_isList_198, nI_1]
      exact hK
    by_cases hfam : mI ρ 1305 i0 = nI f
    · rw [if_pos hfam] at ec1
      have head : ∀ (q' : (Int32 → Mem → Prop) × Mem) (K' : Int32 × Mem → Prop), (isa (par ρ) d tt = false → X_X12_isList_198 G q'.1 K' 1282 (nI (60 * u + k)) (nI u) (nI tt) (nI b) (nI f) (nI i0) (mg q'.2 (kl ρ a t))) → (isa (par ρ) d tt = true → ((mI ρ 1309 (16 * i0 + b) = x → X_X12_objectOf G (fun w15 s14 => ((w15 < 0 → X_X12_isList_187 G q'.1 K' 1282 (nI (60 * u + k)) (nI u) (nI tt) (nI b) (nI f) (nI i0) s14) ∧ (¬ w15 < 0 → gT G (mR s14 1282 42) = 100 ∧ vp_in w15 (gL G (mR s14 1282 42)) ∧ (((mI s14 (mR s14 1282 42) w15.toNatClampNeg) = 0 → X_X12_isList_187 G q'.1 K' 1282 (nI (60 * u + k)) (nI u) (nI tt) (nI b) (nI f) (nI i0) s14) ∧ (¬ (mI s14 (mR s14 1282 42) w15.toNatClampNeg) = 0 → X_X12_isList_198 G q'.1 K' 1282 (nI (60 * u + k)) (nI u) (nI tt) (nI b) (nI f) (nI i0) s14))))) 1282 (nI u) (nI f) (mI ρ 1306 i0) (mg q'.2 (kl ρ a t))) ∧ (¬ mI ρ 1309 (16 * i0 + b) = x → X_X12_isList_198 G q'.1 K' 1282 (nI (60 * u + k)) (nI u) (nI tt) (nI b) (nI f) (nI i0) (mg q'.2 (kl ρ a t))))) → X_X12_isList_92_s G q'.1 1282 (nI (60 * u + k)) (nI u) (nI tt) (nI b) (nI f) K' (nI i0, mg q'.2 (kl ρ a t)) := by
        intro q' K' hh0 hh1
        simp (disch := omega) only [X_X12_isList_92_s, mI_m, mR_m, kl_R, kl_cl, kl_sl, hM.1, hM.2, hm.1, hm.2, lT, lF, tT, tF, eF, pF, zT, m1F, vT, cI, true_and, and_true, true_implies, false_implies, not_false_eq_true, not_true_eq_false, forall_eq, implies_true, xR.2.1, hfam, y4]
        refine m_isA0 hM (stk a t) (pk a t) h12 y3 (by omega) (fun e => br1 ?_) (fun e => br0 (hh0 (by rw [ik] at e; exact e)))
        simp (disch := omega) only [nls, pk_mul, nI_add, mI_m, mR_m, kl_R, kl_cl, kl_sl, hM.1, hM.2, hm.1, hm.2, lT, lF, tT, tF, eF, pF, zT, m1F, vT, cI, true_and, and_true, true_implies, false_implies, not_false_eq_true, not_true_eq_false, forall_eq, implies_true, ex]
        exact hh1 (by rw [ik] at e; exact e)
      by_cases hP : PRm ρ us u f tt b x i0
      · obtain ⟨-, d', b0, b1, b2, b3, b4⟩ := id hP
        have ed : d = d' := (eI (by omega) (by omega)).mp (y4.symm.trans b1)
        subst ed
        obtain ⟨p, p1, p2, p3⟩ := insPos a (mI ρ 1306 i0) t
        have add : ∀ (q' : (Int32 → Mem → Prop) × Mem) (K' : Int32 × Mem → Prop), K' (nI (i0 + 1), mg q'.2 (kl ρ (insAt a t p (mI ρ 1306 i0)) (t + 1))) → X_X12_isList_187 G q'.1 K' 1282 (nI (60 * u + k)) (nI u) (nI tt) (nI b) (nI f) (nI i0) (mg q'.2 (kl ρ a t)) := by
          intro q' K' hK
          simp (disch := omega) only [X_X12_isList_187, X_X12_isList_198, mI_m, mR_m, kl_R, kl_cl, hM.1, hM.2, hm.1, hm.2, lT, lF, tT, tF, eF, pF, zT, m1F, vT, cI, true_and, and_true, true_implies, false_implies, not_false_eq_true, not_true_eq_false, forall_eq, implies_true, nI_1]
          refine m_addKey (p := p) (t := t) hM (stk a t) (by omega) (kl_60 _ _ _) p1 (by rw [kl_k]; exact p2) (by rw [kl_k]; exact p3) ?_
          rw [kl_k, kl_add]
          exact hK
        refine ⟨(i0 + 1, t + 1, insAt a t p (mI ρ 1306 i0)), ⟨rfl, by simp only; omega, hs.ins p1 p2 p3 (fun ⟨r, a1, a2, a3⟩ => ?_) (fun _ _ => rfl) (fun y => ⟨fun ⟨r, a1, a2, a3⟩ => ?_, ?_⟩)⟩, fun q' K' hK => head q' K' (fun e => by rw [b2] at e; cases e) (fun _ => brT b3 ?_)⟩
        · have := xR.2.2.2.2.2.2.1 r i0 (by omega) hi (a2.1.trans hfam.symm) a3
          omega
        · by_cases e : r = i0
          · subst e; exact Or.inr a3.symm
          · exact Or.inl ⟨r, by omega, a2, a3⟩
        · rintro (⟨r, a1, a2, a3⟩ | rfl)
          · exact ⟨r, by omega, a2, a3⟩
          · exact ⟨i0, by omega, hP, rfl⟩
        · rcases objCase us ρ u (nI f) (mI ρ 1306 i0) with ⟨j, j1, j2, j3, j4⟩ | hno
          · refine m_objectOf1 (us := us) hM (stk a t) o1 (by rw [kl_cl (by decide) (by decide)]; exact o3) hu j1 (by rw [kl_cl (by decide) (by decide)]; exact j2) (by rw [kl_cl (by decide) (by decide)]; exact j3) (fun j' h1 => by rw [kl_cl (by decide) (by decide), kl_cl (by decide) (by decide)]; exact j4 j' h1) (brF (pI (by omega)) ?_)
            simp (disch := omega) only [mI_m, mR_m, kl_R, kl_cl, hM.1, hM.2, hm.1, hm.2, lT, lF, tT, tF, eF, pF, zT, m1F, vT, cI, true_and, and_true, true_implies, false_implies, not_false_eq_true, not_true_eq_false, forall_eq, implies_true]
            exact brT (b4 j j1 j2 j3) (add q' K' hK)
          · exact m_objectOf0 (us := us) hM (stk a t) o1 (by rw [kl_cl (by decide) (by decide)]; exact o3) hu (fun j' h1 => by rw [kl_cl (by decide) (by decide), kl_cl (by decide) (by decide)]; exact hno j' h1) (brT m1_neg (add q' K' hK))
      · refine ⟨(i0 + 1, t, a), ⟨rfl, by simp only; omega, skip hP⟩, fun q' K' hK => head q' K' (fun _ => sk q' K' hK) (fun hisa => ⟨fun hv => ?_, fun _ => sk q' K' hK⟩)⟩
        rcases objCase us ρ u (nI f) (mI ρ 1306 i0) with ⟨j, j1, j2, j3, j4⟩ | hno
        · refine m_objectOf1 (us := us) hM (stk a t) o1 (by rw [kl_cl (by decide) (by decide)]; exact o3) hu j1 (by rw [kl_cl (by decide) (by decide)]; exact j2) (by rw [kl_cl (by decide) (by decide)]; exact j3) (fun j' h1 => by rw [kl_cl (by decide) (by decide), kl_cl (by decide) (by decide)]; exact j4 j' h1) (brF (pI (by omega)) ?_)
          simp (disch := omega) only [mI_m, mR_m, kl_R, kl_cl, hM.1, hM.2, hm.1, hm.2, lT, lF, tT, tF, eF, pF, zT, m1F, vT, cI, true_and, and_true, true_implies, false_implies, not_false_eq_true, not_true_eq_false, forall_eq, implies_true]
          refine brF (fun e => hP ⟨hfam, d, by omega, y4, hisa, hv, fun j' q1 q2 q3 => ?_⟩) (sk q' K' hK)
          rw [xZ.2.1 u hu ho j' j q1 j1 (q2.trans j2.symm) (q3.trans j3.symm)]
          exact e
        · exact absurd ⟨hfam, d, by omega, y4, hisa, hv, fun j' q1 q2 q3 => absurd ⟨q2, q3⟩ (hno j' q1)⟩ hP
    · rw [if_neg hfam] at ec1
      refine ⟨(i0 + 1, t, a), ⟨rfl, by simp only; omega, skip (fun h => hfam h.1)⟩, fun q' K' hK => ?_⟩
      simp (disch := omega) only [X_X12_isList_92_s, mI_m, mR_m, kl_R, kl_cl, kl_sl, hM.1, hM.2, hm.1, hm.2, lT, lF, tT, tF, eF, pF, zT, m1F, vT, cI, true_and, and_true, true_implies, false_implies, not_false_eq_true, not_true_eq_false, forall_eq, implies_true, xR.2.1]
      exact brF hfam (sk q' K' hK)) 0 (Nat.zero_le _) (0, 0, mI ρ 1327) ⟨rfl, Nat.zero_le _, (Srt.nil _).cg (fun _ _ => rfl) (fun y => ⟨fun h => h.elim, fun ⟨i', h, _⟩ => by omega⟩)⟩
  simp only at e1 ht1 hs1
  subst e1
  rw [hcn] at ht1
  have hs1' : Srt a1 t1 (gS κ ρ N us u f tt b x 0) := hs1.cg (fun _ _ => rfl) (fun y => ⟨fun h => Or.inl ((PR_eq xR hf hb).mpr h), fun h => h.elim (fun h => (PR_eq xR hf hb).mp h) (fun ⟨j', h, _⟩ => by omega)⟩)
  obtain ⟨⟨j2, t2, a2⟩, ⟨e2, ht2, hs2'⟩, run2⟩ := Lw.run (α := Int32 × Mem) (β := Nat × Nat × (Nat → Int32)) (ι := (Int32 → Mem → Prop) × Mem) (fun q' => X_X12_isList_207_s G q'.1 1282 (nI (60 * u + k)) (nI u) (nI tt) (nI b) (nI f)) (fun b' q' => (nI b'.1, mg q'.2 (kl ρ b'.2.2 b'.2.1))) (us u) (fun j b' => b'.1 = j ∧ b'.2.1 ≤ N f + j ∧ Srt b'.2.2 b'.2.1 (gS κ ρ N us u f tt b x j)) (by
    rintro j ⟨j0, t, a⟩ hj ⟨rfl, ht, hs⟩
    simp only at ht hs
    have sk : ∀ (q' : (Int32 → Mem → Prop) × Mem) (K' : Int32 × Mem → Prop), K' (nI (j0 + 1), mg q'.2 (kl ρ a t)) → X_X12_isList_300 G q'.1 K' 1282 (nI (60 * u + k)) (nI u) (nI tt) (nI b) (nI f) (nI j0) (mg q'.2 (kl ρ a t)) := by
      intro q' K' hK
      simp only [X_X12_isList_300, nI_1]
      exact hK
    have skip : ¬ PTc ρ tt b x (60 * u + j0) → Srt a t (gS κ ρ N us u f tt b x (j0 + 1)) := fun hn => hs.cg (fun _ _ => rfl) (fun y => ⟨fun h => h.imp id (fun ⟨j', a1, a2⟩ => ⟨j', by omega, a2⟩), fun h => h.imp id (fun ⟨j', a1, a2, a3⟩ => by
      by_cases e : j' = j0
      · subst e; exact absurd a2 hn
      · exact ⟨j', by omega, a2, a3⟩)⟩)
    by_cases hfam : mI ρ 1320 (60 * u + j0) = nI f
    · have head : ∀ (q' : (Int32 → Mem → Prop) × Mem) (K' : Int32 × Mem → Prop), X_X12_isLive G (fun w7 s6 => ((w7 = 0 → X_X12_isList_300 G q'.1 K' 1282 (nI (60 * u + k)) (nI u) (nI tt) (nI b) (nI f) (nI j0) s6) ∧ (¬ w7 = 0 → gT G (mR s6 1282 45) = 100 ∧ vp_in (nI (60 * u + j0)) (gL G (mR s6 1282 45)) ∧ X_X12_isA G (fun w11 s10 => ((w11 = 0 → X_X12_isList_300 G q'.1 K' 1282 (nI (60 * u + k)) (nI u) (nI tt) (nI b) (nI f) (nI j0) s10) ∧ (¬ w11 = 0 → gT G (mR s10 1282 47) = 100 ∧ vp_in (nI (16 * (60 * u + j0) + b)) (gL G (mR s10 1282 47)) ∧ gT G (mR s10 1282 44) = 100 ∧ vp_in (nI (60 * u + k)) (gL G (mR s10 1282 44)) ∧ (((mI s10 (mR s10 1282 47) (16 * (60 * u + j0) + b)) = (mI s10 (mR s10 1282 44) (60 * u + k)) → vp_in (nI (60 * u + j0)) (gL G (mR s10 1282 44)) ∧ X_X12_addKey G (fun s17 => X_X12_isList_300 G q'.1 K' 1282 (nI (60 * u + k)) (nI u) (nI tt) (nI b) (nI f) (nI j0) s17) 1282 (mI s10 (mR s10 1282 44) (60 * u + j0)) s10) ∧ (¬ (mI s10 (mR s10 1282 47) (16 * (60 * u + j0) + b)) = (mI s10 (mR s10 1282 44) (60 * u + k)) → X_X12_isList_300 G q'.1 K' 1282 (nI (60 * u + k)) (nI u) (nI tt) (nI b) (nI f) (nI j0) s10))))) 1282 (0 : Int32) (mI s6 (mR s6 1282 45) (60 * u + j0)) (nI tt) s6))) 1282 (nI (60 * u + j0)) (mg q'.2 (kl ρ a t)) → X_X12_isList_207_s G q'.1 1282 (nI (60 * u + k)) (nI u) (nI tt) (nI b) (nI f) K' (nI j0, mg q'.2 (kl ρ a t)) := by
        intro q' K' hh
        simp (disch := omega) only [X_X12_isList_207_s, nls, pk_mul, nI_add, mI_m, mR_m, kl_R, kl_cl, hM.1, hM.2, hm.1, hm.2, lT, lF, tT, tF, eF, pF, zT, m1F, vT, cI, true_and, and_true, true_implies, false_implies, not_false_eq_true, not_true_eq_false, forall_eq, implies_true, o3, hfam] at hh ⊢
        exact hh
      by_cases hl : LiveS ρ (60 * u + j0)
      · obtain ⟨f', f1, f2, d, d1, d2, d3, -⟩ := hA.liv hu ho hj hl
        have hl' : LiveS (kl ρ a t) (60 * u + j0) := by
          unfold LiveS
          rw [kl_cl (by decide) (by decide)]; exact hl
        cases hisa : isa (par ρ) d tt
        · refine ⟨(j0 + 1, t, a), ⟨rfl, by simp only; omega, skip ?_⟩, fun q' K' hK => head q' K' (m_isLive1 hM (stk a t) (by omega) hl' (br1 ?_))⟩
          · rintro ⟨-, d', b0, b1, b2, -⟩
            have : d = d' := (eI (by omega) (by omega)).mp (d2.symm.trans b1)
            subst this
            rw [hisa] at b2; cases b2
          · simp (disch := omega) only [mI_m, mR_m, kl_R, kl_cl, hM.1, hM.2, hm.1, hm.2, lT, lF, tT, tF, eF, pF, zT, m1F, vT, cI, true_and, and_true, true_implies, false_implies, not_false_eq_true, not_true_eq_false, forall_eq, implies_true, d2]
            exact m_isA0 hM (stk a t) (pk a t) h12 d1 (by omega) (fun e => by rw [ik, hisa] at e; cases e) (fun _ => br0 (sk q' K' hK))
        · by_cases hv : mI ρ 1324 (16 * (60 * u + j0) + b) = x
          · have hPT : PTc ρ tt b x (60 * u + j0) := ⟨hl, d, by omega, d2, hisa, hv⟩
            obtain ⟨p, p1, p2, p3⟩ := insPos a (mI ρ 1321 (60 * u + j0)) t
            refine ⟨(j0 + 1, t + 1, insAt a t p (mI ρ 1321 (60 * u + j0))), ⟨rfl, by simp only; omega, hs.ins p1 p2 p3 (by rw [hf0]; exact gS_new hA hu ho hj hPT) (fun _ _ => rfl) (fun y => ⟨fun h => ?_, fun h => ?_⟩)⟩, fun q' K' hK => head q' K' (m_isLive1 hM (stk a t) (by omega) hl' (br1 ?_))⟩
            · rcases h with h | ⟨j', a1, a2, a3⟩
              · exact Or.inl (Or.inl h)
              · by_cases e : j' = j0
                · subst e; exact Or.inr a3.symm
                · exact Or.inl (Or.inr ⟨j', by omega, a2, a3⟩)
            · rcases h with (h | ⟨j', a1, a2, a3⟩) | rfl
              · exact Or.inl h
              · exact Or.inr ⟨j', by omega, a2, a3⟩
              · exact Or.inr ⟨j0, by omega, hPT, rfl⟩
            · simp (disch := omega) only [mI_m, mR_m, kl_R, kl_cl, hM.1, hM.2, hm.1, hm.2, lT, lF, tT, tF, eF, pF, zT, m1F, vT, cI, true_and, and_true, true_implies, false_implies, not_false_eq_true, not_true_eq_false, forall_eq, implies_true, d2]
              refine m_isA0 hM (stk a t) (pk a t) h12 d1 (by omega) (fun _ => br1 ?_) (fun e => by rw [ik, hisa] at e; cases e)
              simp (disch := omega) only [X_X12_isList_300, mI_m, mR_m, kl_R, kl_cl, hM.1, hM.2, hm.1, hm.2, lT, lF, tT, tF, eF, pF, zT, m1F, vT, cI, true_and, and_true, true_implies, false_implies, not_false_eq_true, not_true_eq_false, forall_eq, implies_true, hv, ex, nI_1]
              refine m_addKey (p := p) (t := t) hM (stk a t) (by omega) (kl_60 _ _ _) p1 (by rw [kl_k]; exact p2) (by rw [kl_k]; exact p3) ?_
              rw [kl_k, kl_add]
              exact hK
          · refine ⟨(j0 + 1, t, a), ⟨rfl, by simp only; omega, skip (fun h => ?_)⟩, fun q' K' hK => head q' K' (m_isLive1 hM (stk a t) (by omega) hl' (br1 ?_))⟩
            · obtain ⟨-, d', b0, b1, b2, b3⟩ := h
              exact hv b3
            · simp (disch := omega) only [mI_m, mR_m, kl_R, kl_cl, hM.1, hM.2, hm.1, hm.2, lT, lF, tT, tF, eF, pF, zT, m1F, vT, cI, true_and, and_true, true_implies, false_implies, not_false_eq_true, not_true_eq_false, forall_eq, implies_true, d2]
              refine m_isA0 hM (stk a t) (pk a t) h12 d1 (by omega) (fun _ => br1 ?_) (fun e => by rw [ik, hisa] at e; cases e)
              simp (disch := omega) only [mI_m, mR_m, kl_R, kl_cl, hM.1, hM.2, hm.1, hm.2, lT, lF, tT, tF, eF, pF, zT, m1F, vT, cI, true_and, and_true, true_implies, false_implies, not_false_eq_true, not_true_eq_false, forall_eq, implies_true, ex]
              exact brF hv (sk q' K' hK)
      · refine ⟨(j0 + 1, t, a), ⟨rfl, by simp only; omega, skip (fun h => hl h.1)⟩, fun q' K' hK => head q' K' (m_isLive0 hM (stk a t) (by omega) ?_ (br0 (sk q' K' hK)))⟩
        unfold LiveS
        rw [kl_cl (by decide) (by decide)]; exact hl
    · refine ⟨(j0 + 1, t, a), ⟨rfl, by simp only; omega, skip (fun h => hfam (by rw [hf0]; exact hA.fam hu ho hj h))⟩, fun q' K' hK => ?_⟩
      simp (disch := omega) only [X_X12_isList_207_s, nls, pk_mul, nI_add, mI_m, mR_m, kl_R, kl_cl, hM.1, hM.2, hm.1, hm.2, lT, lF, tT, tF, eF, pF, zT, m1F, vT, cI, true_and, and_true, true_implies, false_implies, not_false_eq_true, not_true_eq_false, forall_eq, implies_true, o3]
      exact brF hfam (sk q' K' hK)) 0 (Nat.zero_le _) (0, t1, a1) ⟨rfl, by simp only; omega, hs1'⟩
  simp only at e2 ht2 hs2'
  subst e2
  have ed : (60 * u + k) / 60 = u := by omega
  refine ⟨t2, a2, by omega, fun κ1 Q hQ => ?_, hs2'⟩
  simp (disch := omega) only [X_X12_isList_19, X_X12_isList_198, X_X12_isList_187, X_X12_isList_300, X_X12_isList_0, X_X12_isList, nls, pk_mul, nI_add, dI, ed, mI_m, mR_m, hM.1, hM.2, hm.1, hm.2, lT, lF, tT, tF, eF, pF, zT, m1F, vT, cI, true_and, and_true, true_implies, false_implies, not_false_eq_true, not_true_eq_false, forall_eq, implies_true, ec, hmc, e5, e8, e11]
  refine m_rootOf hM hm xS htt ?_
  rw [← hf0]
  simp (disch := omega) only [mI_m, mR_m, sI_m, mR_sI, hM.1, hM.2, hm.1, hm.2, lT, lF, tT, tF, eF, pF, zT, m1F, vT, cI, true_and, and_true, true_implies, false_implies, not_false_eq_true, not_true_eq_false, forall_eq, implies_true]
  rw [kz_0]
  unfold X_X12_isList_92
  refine run1 (Q, κ1) (fun K' => ?_)
  simp (disch := omega) only [X_X12_isList_92_s, mI_m, kl_sl, hM.1, true_and, xR.2.1]
  refine brT (Int32.le_refl _) ?_
  unfold X_X12_isList_207
  refine run2 (Q, κ1) (fun K' => ?_)
  simp (disch := omega) only [X_X12_isList_207_s, mI_m, mR_m, kl_R, kl_cl, hM.1, hM.2, hm.1, hm.2, lT, lF, tT, tF, eF, pF, zT, m1F, vT, cI, true_and, and_true, true_implies, false_implies, not_false_eq_true, not_true_eq_false, forall_eq, implies_true, o3]
  first | exact ⟨bz1, hQ⟩ | exact brT (Int32.le_refl _) ⟨bz1, hQ⟩
end ISL
