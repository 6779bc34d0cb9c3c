/-! leaves for the checks of what is meant -/
section CKL
variable {G : Lay} {κ κ' ρ ρ' ρ1 κ1 : Mem} {sd s n nw c m t o b : Nat} {mc rt hc ow tb : Nat → Nat} {v : Int64} {Q : Int32 → Mem → Prop}
def rsC (sd a k : Nat) : Prop := ¬ (sd + 64 ≤ a ∧ a < sd + 256 ∧ (k = 8 ∨ k = 11))
def rsM (a k : Nat) : Prop := ¬ ((a = 1291 ∨ a = 1295) ∧ 208 ≤ k)
theorem DSrt.fr2 {x k : Nat} (h : DSrt sd nw κ ρ x k) (hx : x ≠ sd + 3) (e1 : ∀ a j, (a ≠ x ∨ j ≠ 8 ∧ j ≠ 11) → a = x ∨ a = sd + 3 → mI κ' a j = mI κ a j ∧ mJ κ' a j = mJ κ a j) (e2 : ∀ a j, a ≠ 1291 → a ≠ 1295 → mI ρ' a j = mI ρ a j ∧ mJ ρ' a j = mJ ρ a j) : DSrt sd nw κ' ρ' x k := by
  obtain ⟨kd, f, w, a1, a2, a3, a4, a5, a6⟩ := h
  have g : ∀ j, j ≠ 8 → j ≠ 11 → mI κ' x j = mI κ x j ∧ mJ κ' x j = mJ κ x j := fun j h1 h2 => e1 x j (Or.inr ⟨h1, h2⟩) (Or.inl rfl)
  have gM : ∀ a, a ≠ 1291 → a ≠ 1295 → mI ρ' a k = mI ρ a k := fun a h1 h2 => (e2 a k h1 h2).1
  refine ⟨kd, f, w, ?_, ?_, ?_, fun q => ?_, fun q => ?_, fun q => ?_⟩
  · rw [(g 2 (by decide) (by decide)).1, gM 1290 (by decide) (by decide)]; exact a1
  · rw [(g 3 (by decide) (by decide)).1, gM 1294 (by decide) (by decide)]; exact a2
  · rw [(g 5 (by decide) (by decide)).1, gM 1293 (by decide) (by decide)]; exact a3
  · exact (a4 q).fr (g 4 (by decide) (by decide)).1 (gM 1292 (by decide) (by decide)) (fun j hj => ⟨(e1 (sd + 3) j (Or.inl (Ne.symm hx)) (Or.inr rfl)).2, (e2 1304 _ (by decide) (by decide)).2⟩)
  · rw [(g 6 (by decide) (by decide)).2, (e2 1297 k (by decide) (by decide)).2, (g 7 (by decide) (by decide)).1, gM 1298 (by decide) (by decide)]; exact a5 q
  · rw [(g 9 (by decide) (by decide)).2, (e2 1299 k (by decide) (by decide)).2, (g 10 (by decide) (by decide)).1, gM 1300 (by decide) (by decide)]; exact a6 q
theorem DRf.fr2 (h : DRf sd n nw mc rt hc ow tb κ ρ) (e1 : Eqv (rsC sd) κ κ') (e2 : Eqv rsM ρ ρ') : DRf sd n nw mc rt hc ow tb κ' ρ' := by
  obtain ⟨⟨h1, h2, h3, h4⟩, hN, ⟨q1, q2, q3⟩, q4, q5⟩ := h
  have gI : ∀ a k, a < sd + 64 → mI κ' a k = mI κ a k := fun a k h => e1.I (by unfold rsC; omega)
  have gJ : ∀ a k, a < sd + 64 → mJ κ' a k = mJ κ a k := fun a k h => e1.J (by unfold rsC; omega)
  have gR : ∀ a k, a < sd + 64 → mR κ' a k = mR κ a k := fun a k h => e1.R (by unfold rsC; omega)
  have rI : ∀ a k, a ≠ 1291 → a ≠ 1295 → mI ρ' a k = mI ρ a k := fun a k h1 h2 => e2.I (by unfold rsM; omega)
  have rJ : ∀ a k, a ≠ 1291 → a ≠ 1295 → mJ ρ' a k = mJ ρ a k := fun a k h1 h2 => e2.J (by unfold rsM; omega)
  refine ⟨⟨fun c hcn => ?_, h2, h3, h4⟩, fun c hcn => ?_, ⟨?_, ?_, ?_⟩, ?_, ?_⟩
  · obtain ⟨a1, a2, a3, a4⟩ := h1 c hcn
    refine ⟨?_, ?_, fun m m1 m2 => ?_, fun q hq => ?_⟩
    · unfold DCls
      rw [gJ _ _ (by omega), gI _ 1 (by omega), gI _ 2 (by omega), gI _ 3 (by omega), rJ 1284 _ (by decide) (by decide), rI 1285 _ (by decide) (by decide), rI 1286 _ (by decide) (by decide)]
      exact a1
    · unfold DHei
      rw [rI 1285 _ (by decide) (by decide), rI 1286 _ (by decide) (by decide)]
      rcases a2 with b | ⟨p, p1, p2, p3, p4, p5, p6⟩
      · exact Or.inl b
      · refine Or.inr ⟨p, p1, p2, p3, p4, ?_, fun m hm => ?_⟩
        · rw [rI 1286 _ (by decide) (by decide)]; exact p5
        · rw [gR (sd + 5 + 5 * c) m (by omega), gR (sd + 5 + 5 * p) m (by omega)]
          simp only [rI 1290 _ (by decide) (by decide), rI 1292 _ (by decide) (by decide), rI 1293 _ (by decide) (by decide), rI 1294 _ (by decide) (by decide), rI 1296 _ (by decide) (by decide), rJ 1289 _ (by decide) (by decide)]
          exact p6 m hm
    · obtain ⟨b1, b2, b3, b4⟩ := a3 m m1 m2
      refine ⟨?_, ?_, ?_, b4.fr2 (by omega) (fun a j y1 y2 => ?_) (fun a j y1 y2 => ⟨rI a j y1 y2, rJ a j y1 y2⟩)⟩
      · rw [gR _ _ (by omega)]; exact b1
      · rw [e1.I (by unfold rsC; omega), rI 1296 _ (by decide) (by decide)]; exact b2
      · rw [e1.J (by unfold rsC; omega), rJ 1289 _ (by decide) (by decide)]; exact b3
      · have := e1 a j (by unfold rsC; omega)
        exact ⟨this.1, this.2.1⟩
    · obtain ⟨b1, ⟨m, b2, b3, b4, b5⟩, b6⟩ := a4 q hq
      refine ⟨?_, ⟨m, b2, ?_, ?_, ?_⟩, ?_⟩
      · rw [gI _ _ (by omega), rI 1301 _ (by decide) (by decide)]; exact b1
      · rw [gI _ _ (by omega)]; exact b3
      · rw [rI 1302 _ (by decide) (by decide)]; exact b4
      · rw [rI 1290 _ (by decide) (by decide)]; exact b5
      · rw [gI _ _ (by omega), rI 1303 _ (by decide) (by decide)]; exact b6
  · obtain ⟨⟨k1, k2⟩, k3, k4⟩ := hN c hcn
    refine ⟨⟨?_, ?_⟩, ?_, ?_⟩
    · rw [gI _ _ (by omega)]; exact k1
    · rw [rI 1287 _ (by decide) (by decide)]; exact k2
    · rw [gI _ _ (by omega)]; exact k3
    · rw [rI 1288 _ (by decide) (by decide)]; exact k4
  · rw [gI _ _ (by omega)]; exact q1
  · rw [gI _ _ (by omega)]; exact q2
  · rw [gI _ _ (by omega)]; exact q3
  · rw [rI 1282 _ (by decide) (by decide)]; exact q4
  · rw [rI 1282 _ (by decide) (by decide)]; exact q5
theorem c_isOfN {p : Nat → Int32} (hsc : s = 14 ∨ s = 275) (hT : LyS G s) (hK : StS s κ) (hn : mI κ s 0 = nI n) (h12 : n ≤ 12) (hp : ∀ c, c < n → mI κ (s + 4 + 5 * c) 1 = p c) (hw : ParW p n) (hc : c < n) (k0 : Q 0 (mg κ ρ)) : X_X6_isOf G Q s (nI c) (-1) (mg κ ρ) := by
  unfold X_X6_isOf X_X6_isOf_0 X_X6_isOf_5
  refine Lw.nat 12 (fun i x => (∃ k, k + i ≤ c ∧ x = (nI k, nI i, mg κ ρ)) ∨ x = (-1, nI i, mg κ ρ)) ?_ 0 (by omega) _ (Or.inl ⟨c, by omega, rfl⟩)
  rintro K i x hi (⟨k, hki, rfl⟩ | rfl) hK2
  · simp (disch := omega) only [X_X6_isOf_5_s, X_X6_isOf_47, nls, lF, lT, pF, mI_c, mR_c, hK.1, hK.2.1, hT.1, hT.2.1, hn, cI, vT, true_and, and_true, true_implies, false_implies, not_false_eq_true, not_true_eq_false, bzT1, bzT0, hp, nI_1]
    refine brF (mI1 (by omega)) ?_
    refine hK2 _ (by omega) ?_
    rcases hw k (by omega) with e1 | ⟨q, hq, e1⟩
    · exact Or.inr (by rw [e1])
    · exact Or.inl ⟨q, by omega, by rw [e1]⟩
  · simp (disch := omega) only [X_X6_isOf_5_s, X_X6_isOf_47, m10, true_and, and_true, true_implies, false_implies, not_false_eq_true, not_true_eq_false, bzT0]
    exact ⟨fun _ => k0, fun _ => k0⟩
theorem m_isA13 (hM : LyM G) (hm : StM ρ) (hp : ParW (dpar ρ) n) (h12 : n ≤ 12) {c d : Nat} (h : c < n) (hd : d < 2147483648) (k1 : isa (dpar ρ) c d = true → Q 1 (mg κ1 ρ)) (k0 : isa (dpar ρ) c d = false → Q 0 (mg κ1 ρ)) : X_X12_isA G Q 1282 13 (nI c) (nI d) (mg κ1 ρ) := by
  have n13 : (13 : Int32) = nI 13 := rfl
  unfold X_X12_isA X_X12_isA_0 X_X12_isA_3
  refine Lw.by (fun x => (∃ q, q < n ∧ x = (nI q, mg κ1 ρ) ∧ isa (dpar ρ) q d = isa (dpar ρ) c d) ∨ (x = (-1, mg κ1 ρ) ∧ isa (dpar ρ) c d = false)) (fun x => if x.1 < 0 then 0 else x.1.toNatClampNeg + 1) ?_ _ (Or.inl ⟨c, h, rfl, rfl⟩)
  rintro K' x (⟨q, hq, rfl, hr⟩ | ⟨rfl, hr⟩) hk
  · simp (disch := omega) only [X_X12_isA_3_s, X_X12_isA_28, X_X12_isA_39, lT, lF, tT, tF, eF, pF, zT, m1F, vT, cI, true_and, and_true, true_implies, false_implies, not_false_eq_true, not_true_eq_false, forall_eq, implies_true, mI_m, mR_m, hM.1, hM.2, hm.1, hm.2, bzT1, bzT0, n13, nI_add]
    refine ⟨fun e => ?_, fun e => ?_⟩
    · refine ⟨fun _ => k1 ?_, fun e2 => absurd e e2⟩
      rw [← hr, (eI (by omega) hd).mp e]
      exact isa_self _ _
    · have hne : q ≠ d := fun z => e (by rw [z])
      rcases hp q hq with e1 | ⟨p, h5, e1⟩
      · refine hk _ (Or.inr ⟨by rw [show mI ρ 1285 (13 + q) = -1 from e1], by rw [← hr]; exact isa_root e1 hne⟩) ?_
        show (if mI ρ 1285 (13 + q) < 0 then 0 else _) < (if nI q < 0 then 0 else _)
        rw [show mI ρ 1285 (13 + q) = -1 from e1, if_pos m1_neg, if_neg (pI (by omega))]
        omega
      · refine hk _ (Or.inl ⟨p, by omega, by rw [show mI ρ 1285 (13 + q) = nI p from e1], by rw [← hr]; exact (isa_up hp h12 hq h5 e1 hne).symm⟩) ?_
        show (if mI ρ 1285 (13 + q) < 0 then 0 else (mI ρ 1285 (13 + q)).toNatClampNeg + 1) < (if nI q < 0 then 0 else (nI q).toNatClampNeg + 1)
        rw [show mI ρ 1285 (13 + q) = nI p from e1, if_neg (pI (by omega)), if_neg (pI (by omega)), cI (by omega), cI (by omega)]
        omega
  · have e : ¬ (-1 : Int32) = nI d := fun e => mI1 hd e.symm
    simp (disch := omega) only [X_X12_isA_3_s, X_X12_isA_28, X_X12_isA_39, lT, lF, tT, tF, eF, pF, zT, m1F, vT, cI, true_and, and_true, true_implies, false_implies, not_false_eq_true, not_true_eq_false, forall_eq, implies_true, m10, bzT1, bzT0, e]
    exact k0 hr
theorem c_mbNamed (hG : Ly G) (hC : StC κ) (hs : s = 14 ∨ s = 275) (h0 : mI κ s 0 = nI n) (h12 : n ≤ 12) (hc : c < n) (hn : mI κ (s + 4 + 5 * c) 4 = nI t) (h16 : t ≤ 16) (hr : ∀ j, j < t → s + 64 ≤ mR κ (s + 5 + 5 * c) j ∧ mR κ (s + 5 + 5 * c) j < s + 256) (q : Q (fdx (fun j => mJ κ (mR κ (s + 5 + 5 * c) j) 0) v t) (mg κ ρ1)) : X_X6_memberNamed G Q s (nI c) v (mg κ ρ1) := by
  have hT := hG.s hs
  refine ⟨hT.1.1, c_kdAt1 hG hC hs h0 h12 hc (brF (by omega) ⟨(hT.2.1 c (by omega)).1, ?_⟩)⟩
  rcases fdx_cases (f := fun j => mJ κ (mR κ (s + 5 + 5 * c) j) 0) (v := v) t (by omega) with ⟨e, h⟩ | ⟨b, hb, e, h1, h2⟩
  · rw [e] at q; exact c_memberNamed0 hG hC hs (by omega) hn h16 hr h q
  · rw [e] at q; exact c_memberNamed1 hG hC hs (by omega) hn h16 hr hb h1 h2 q
theorem c_mbAt1 {Q : Nat → Mem → Prop} (hG : Ly G) (hC : StC κ) (hs : s = 14 ∨ s = 275) (h0 : mI κ s 0 = nI n) (h12 : n ≤ 12) (hc : c < n) (hn : mI κ (s + 4 + 5 * c) 4 = nI t) (h16 : t ≤ 16) (hb : b < t) (q : Q (mR κ (s + 5 + 5 * c) b) (mg κ ρ1)) : X_X6_memberAt G Q s (nI c) (nI b) (mg κ ρ1) := by
  have hL := hG.1
  have hT := hG.s hs
  have hK := hC.ss hs
  have g2 := hT.2.1 c (by omega)
  refine ⟨hT.1.1, c_kdAt1 hG hC hs h0 h12 hc (brF (by omega) (brF (pI (by omega)) ?_))⟩
  simp (disch := omega) only [X_X6_memberAt_22, X_X6_memberAt_32, mI_c, mR_c, mJ_c, sI_c, sJ_c, sR_c, hL.1, hL.2.1, hL.2.2, hC.1, hC.2.1, hC.2.2.1, g2, hK.2.1, hn, lT, lF, tT, tF, eF, pF, zT, m1F, vT, cI, true_and, and_true, true_implies, false_implies, not_false_eq_true, not_true_eq_false, forall_eq, implies_true]
  exact q
theorem c_mbAt0 {Q : Nat → Mem → Prop} (hG : Ly G) (hC : StC κ) (hs : s = 14 ∨ s = 275) (h0 : mI κ s 0 = nI n) (h12 : n ≤ 12) (hc : c < n) (q : Q 0 (mg κ ρ1)) : X_X6_memberAt G Q s (nI c) (-1) (mg κ ρ1) := by
  have hT := hG.s hs
  exact ⟨hT.1.1, c_kdAt1 hG hC hs h0 h12 hc (brF (by omega) (brT m1_neg q))⟩
theorem m_mbNamed (hM : LyM G) (hm : StM ρ) (hc : c < 12) (hn : mI ρ 1287 (13 + c) = nI t) (h16 : t ≤ 16) (q : Q (fdx (fun j => mJ ρ 1289 (16 * (13 + c) + j)) v t) (mg κ1 ρ)) : X_X12_memberNamed G Q 1282 (nI (13 + c)) v (mg κ1 ρ) := by
  rcases fdx_cases (f := fun j => mJ ρ 1289 (16 * (13 + c) + j)) (v := v) t (by omega) with ⟨e, h⟩ | ⟨b, hb, e, h1, h2⟩
  · rw [e] at q; exact m_memberNamed0 hM hm (by omega) hn h16 h q
  · rw [e] at q; exact m_memberNamed1 hM hm (by omega) hn h16 hb h1 h2 q
theorem c_refuseAt {f pl : Int32} (hL : LyC G) (q : Q 0 (mg (sI (sI κ 3 5 f) 3 6 pl) ρ1)) : X_X8_refuseAt G Q 3 f pl (mg κ ρ1) := by
  have g9 : gT G 3 = 9 := hL.1.2.2.2.1
  simp (disch := omega) only [X_X8_refuseAt, X_X8_refuseAt_0, g9, sI_c, bzT0, forall_eq, true_and]
  exact q
end CKL
