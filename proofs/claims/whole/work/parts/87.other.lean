theorem ifp_cg {α : Type} {p q : Prop} {a b : α} (h : p ↔ q) : ifp p a b = ifp q a b := by
  by_cases hp : p
  · rw [ifp_t hp, ifp_t (h.mp hp)]
  · rw [ifp_f hp, ifp_f (fun z => hp (h.mpr z))]
section OTHER
variable {G : Lay} {nn nn' sc n r0 r1 : Nat} {mc rt hc K K' N us : Nat → Nat} {κ κ' ρ ρ' κ1 ρ1 : Mem} {u k : Nat}
/-- a rule speaks of the other rows alone -/
theorem rul_eq (hS : RelS sc n mc rt hc κ ρ) (hm : Eqv sM ρ ρ') {f c m : Nat} {x v : Int32} (hc1 : c < n) (hm1 : m < mc c) (hf : f < 12)
    (h01 : ∀ r, r < r0 → ¬ (mI ρ 1305 r = nI f ∧ mI ρ 1306 r = x) → r < r1 ∧ mI ρ' 1305 r = mI ρ 1305 r ∧ mI ρ' 1306 r = mI ρ 1306 r ∧ mI ρ' 1307 r = mI ρ 1307 r ∧ mI ρ' 1309 (16 * r + m) = mI ρ 1309 (16 * r + m) ∧ ∃ d, d < n ∧ mI ρ 1307 r = nI d)
    (h10 : ∀ r, r < r1 → ¬ (mI ρ' 1305 r = nI f ∧ mI ρ' 1306 r = x) → r < r0 ∧ mI ρ' 1305 r = mI ρ 1305 r ∧ mI ρ' 1306 r = mI ρ 1306 r ∧ mI ρ' 1307 r = mI ρ 1307 r ∧ mI ρ' 1309 (16 * r + m) = mI ρ 1309 (16 * r + m) ∧ ∃ d, d < n ∧ mI ρ 1307 r = nI d) : rul r1 rt ρ' f x c m v = rul r0 rt ρ f x c m v := by
  have h12 := hS.le
  have h16 := hS.m16 hc1
  have hi : ∀ c d, c < n → isa (par ρ') c d = isa (par ρ) c d := fun c d hc => isa_cg hS.par h12 (fun c hc => sM.cl hm (by decide) (by decide) (by omega)) c hc
  have w : ∀ a, 1289 ≤ a → a ≤ 1300 → mI ρ' a (16 * c + m) = mI ρ a (16 * c + m) := fun a q1 q2 => sM.me hm q1 q2 (by omega) (by omega)
  have tI : ∀ o, tkn r1 ρ' f x o m v ↔ tkn r0 ρ f x o m v := by
    intro o
    constructor
    · rintro ⟨r, a1, a2, ⟨d, a3, a4, a5⟩, a6⟩
      obtain ⟨b1, b2, b3, b4, b5, d', b6, b7⟩ := h10 r a1 a2
      have ed : d = d' := (eI (by omega) (by omega)).mp (a4.symm.trans (b4.trans b7))
      subst ed
      exact ⟨r, b1, by rw [← b2, ← b3]; exact a2, ⟨d, a3, b7, by rw [← hi d o b6]; exact a5⟩, b5.symm.trans a6⟩
    · rintro ⟨r, a1, a2, ⟨d, a3, a4, a5⟩, a6⟩
      obtain ⟨b1, b2, b3, b4, b5, d', b6, b7⟩ := h01 r a1 a2
      have ed : d = d' := (eI (by omega) (by omega)).mp (a4.symm.trans b7)
      subst ed
      exact ⟨r, b1, by rw [b2, b3]; exact a2, ⟨d, a3, b4.trans b7, by rw [hi d o b6]; exact a5⟩, b5.trans a6⟩
  have lI' : ∀ t, t < n → (led r1 rt ρ' f x c t v ↔ led r0 rt ρ f x c t v) := by
    intro t ht
    have hrt := hS.rt12 ht
    unfold led
    rw [hi c t hc1]
    refine or_congr Iff.rfl ?_
    constructor
    · rintro ⟨hn, r, a1, a2, a3, d, a4, a5, a6⟩
      obtain ⟨b1, b2, b3, b4, b5, d', b6, b7⟩ := h10 r a1 (fun z => hn ⟨(eI (by omega) (by omega)).mp (a2.symm.trans z.1), a3.symm.trans z.2⟩)
      have ed : d = d' := (eI (by omega) (by omega)).mp (a5.symm.trans (b4.trans b7))
      subst ed
      exact ⟨hn, r, b1, b2.symm.trans a2, b3.symm.trans a3, d, a4, b7, by rw [← hi d t b6]; exact a6⟩
    · rintro ⟨hn, r, a1, a2, a3, d, a4, a5, a6⟩
      obtain ⟨b1, b2, b3, b4, b5, d', b6, b7⟩ := h01 r a1 (fun z => hn ⟨(eI (by omega) (by omega)).mp (a2.symm.trans z.1), a3.symm.trans z.2⟩)
      have ed : d = d' := (eI (by omega) (by omega)).mp (a5.symm.trans b7)
      subst ed
      exact ⟨hn, r, b1, b2.trans a2, b3.trans a3, d, a4, b4.trans b7, by rw [hi d t b6]; exact a6⟩
  obtain ⟨⟨kk, k5, ek, -, -, kt⟩, -⟩ := hS.mw hc1 hm1
  unfold rul
  have cM : bkM ρ' c m v ↔ bkM ρ c m v := by unfold bkM; rw [w _ (by decide) (by decide), w _ (by decide) (by decide)]
  have cU : bkU r1 ρ' f x c m v ↔ bkU r0 ρ f x c m v := by
    unfold bkU
    rw [w _ (by decide) (by decide), w _ (by decide) (by decide)]
    exact and_congr Iff.rfl ⟨fun ⟨o, a, b, c⟩ => ⟨o, a, b, (tI o).mp c⟩, fun ⟨o, a, b, c⟩ => ⟨o, a, b, (tI o).mpr c⟩⟩
  have cL : bkL r1 rt ρ' f x c m v ↔ bkL r0 rt ρ f x c m v := by
    unfold bkL
    rw [w _ (by decide) (by decide), w _ (by decide) (by decide)]
    constructor
    · rintro ⟨a, b, t, t1, t2, t3⟩
      have ek4 : kk = 4 := (eI (b := 4) (by omega) (by decide)).mp (ek.symm.trans a)
      obtain ⟨t', ht', et', -⟩ := kt (by omega)
      have : t' = t := (eI (by omega) (by omega)).mp (et'.symm.trans t2)
      subst this
      exact ⟨a, b, t', t1, t2, fun z => t3 ((lI' t' ht').mpr z)⟩
    · rintro ⟨a, b, t, t1, t2, t3⟩
      have ek4 : kk = 4 := (eI (b := 4) (by omega) (by decide)).mp (ek.symm.trans a)
      obtain ⟨t', ht', et', -⟩ := kt (by omega)
      have : t' = t := (eI (by omega) (by omega)).mp (et'.symm.trans t2)
      subst this
      exact ⟨a, b, t', t1, t2, fun z => t3 ((lI' t' ht').mp z)⟩
  rw [ifp_cg cM, ifp_cg (a := (1 : Int32)) cU, ifp_cg (a := (2 : Int32)) cL]
theorem c_set (hL : LyC G) (hC : StC κ) {Q : Mem → Prop} {i m : Nat} {v : Int32} (hi : i < 720) (hm : m < 16) (q : Q (mg (sI κ 274 (16 * i + m) v) ρ1)) : X_X5_set G Q 13 (nI i) (nI m) v (mg κ ρ1) := by
  simp (disch := omega) only [X_X5_set_0, X_X5_set, mI_c, mR_c, mJ_c, sI_c, sJ_c, sR_c, hL.1, hL.2.1, hL.2.2, hC.1, hC.2.1, hC.2.2.1, nls, lT, lF, tT, tF, eF, pF, zT, e0F, m1F, vT, cI, nI_1, nI_add, pk_mul, true_and, and_true, true_implies, false_implies, not_false_eq_true, not_true_eq_false, bzT1, bzT0, m10, m1z, o0F, forall_eq, implies_true, if_true, if_false, Nat.mul_comm i 16]
  exact q
/-- a row's value becomes another one: the relation stays if no rule is broken -/
theorem RelA.rowv (hA : RelA nn sc n mc rt hc K N r0 us κ ρ) {f i r d m : Nat} {v : Int32} (hf : f < 12) (hi : i < N f) (hr : r < r0) (hrow : RowR κ ρ f i r) (ed : mI ρ 1307 r = nI d) (hd : d < n) (hm1 : m < mc d) (hrul : rul r0 rt ρ f (mI ρ 1306 r) d m v = -1) :
    RelA nn sc n mc rt hc K N r0 us (sI (sI κ 274 (16 * (60 * f + i) + m) v) 273 (60 * f + i) (mI κ 273 (60 * f + i) + 1)) (sI (sI ρ 1309 (16 * r + m) v) 1308 r (mI ρ 1308 r + 1)) := by
  obtain ⟨⟨hC, hm, hNu⟩, xT, xF, xS, xN, xK, xR, xU, xW, xD, xY, xZ⟩ := id hA
  have hs2 := xS.s2
  have h12 := xS.le
  have h16 := xS.m16 hd
  have h60 := (xR.1 f hf).2
  obtain ⟨w1, w2, w3, w4, w5⟩ := hrow
  obtain ⟨f', d', x', y1, y2, y3, y4, y5, y6, y7, y8, y9, y10⟩ := xY r hr
  have edd : d' = d := (eI (by omega) (by omega)).mp (y4.symm.trans ed)
  subst edd
  have eff : f' = f := (eI (by omega) (by omega)).mp (y2.symm.trans w1)
  subst eff
  have hRM := xY.m xR
  -- other rows' places
  have far : ∀ g j, g < 12 → j < N g → (60 * g + j ≠ 60 * f' + i ↔ ¬ (g = f' ∧ j = i)) := fun g j hg hj => by
    have := (xR.1 g hg).2
    constructor
    · rintro h ⟨rfl, rfl⟩; exact h rfl
    · intro h e; exact h (by omega)
  have sme : Eqv sM ρ (sI (sI ρ 1309 (16 * r + m) v) 1308 r (mI ρ 1308 r + 1)) := (Eqv.wI (by simp only [sM]; omega) _).sI (by simp only [sM]; omega) _
  have yR : RelR N r0 (sI (sI κ 274 (16 * (60 * f' + i) + m) v) 273 (60 * f' + i) (mI κ 273 (60 * f' + i) + 1)) (sI (sI ρ 1309 (16 * r + m) v) 1308 r (mI ρ 1308 r + 1)) := by
    have rowsame : ∀ g j s, g < 12 → j < N g → s < r0 → RowR κ ρ g j s → RowR (sI (sI κ 274 (16 * (60 * f' + i) + m) v) 273 (60 * f' + i) (mI κ 273 (60 * f' + i) + 1)) (sI (sI ρ 1309 (16 * r + m) v) 1308 r (mI ρ 1308 r + 1)) g j s := by
      rintro g j s hg hj hs ⟨v1, v2, v3, v4, v5⟩
      have hgj : (g = f' ∧ j = i) ↔ s = r := by
        constructor
        · rintro ⟨rfl, rfl⟩
          exact xR.2.2.2.2.2.2.1 s r hs hr (v1.trans w1.symm) (v2.symm.trans w2)
        · rintro rfl
          have eg : g = f' := (eI (by omega) (by omega)).mp (v1.symm.trans w1)
          subst eg
          exact ⟨rfl, xR.rowInj hg hj hi (v2.trans w2.symm)⟩
      by_cases e : s = r
      · obtain ⟨rfl, rfl⟩ := hgj.mpr e
        subst e
        refine ⟨?_, ?_, ?_, ?_, fun q hq => ?_⟩
        · simp (disch := omega) only [I_cl]; exact v1
        · simp (disch := omega) only [I_cl]; exact v2
        · simp (disch := omega) only [I_cl]; exact v3
        · rw [I_is, I_is, w4]
        · rw [I_cl (a := 273) (b := 274) (by decide), I_cl (a := 1308) (b := 1309) (by decide)]
          by_cases eq : q = m
          · subst eq; rw [I_is, I_is]
          · rw [I_sl (by omega), I_sl (by omega)]; exact v5 q hq
      · have hne := (far g j hg hj).mpr (fun h => e (hgj.mp h))
        refine ⟨?_, ?_, ?_, ?_, fun q hq => ?_⟩
        · simp (disch := omega) only [I_cl]; exact v1
        · simp (disch := omega) only [I_cl]; exact v2
        · simp (disch := omega) only [I_cl]; exact v3
        · rw [I_sl hne, I_sl e, I_cl (by decide), I_cl (by decide)]; exact v4
        · rw [I_cl (a := 273) (b := 274) (by decide), I_cl (a := 1308) (b := 1309) (by decide), I_sl (by omega), I_sl (by omega)]; exact v5 q hq
    obtain ⟨z1, z2, z3, z4, z5, z6, z7, z8⟩ := xR
    refine ⟨fun g hg => ?_, ?_, z3, fun g hg a b hab hb => ?_, fun g hg a ha => ?_, fun s hs => ?_, fun s s' hs hs' e1 e2 => ?_, fun g hg => ?_⟩
    · simp (disch := omega) only [I_cl]; exact z1 g hg
    · simp (disch := omega) only [I_cl]; exact z2
    · simp (disch := omega) only [I_cl]; exact z4 g hg a b hab hb
    · obtain ⟨s, hs, q⟩ := z5 g hg a ha
      exact ⟨s, hs, rowsame g a s hg ha hs q⟩
    · obtain ⟨g, hg, a, ha, q⟩ := z6 s hs
      exact ⟨g, hg, a, ha, rowsame g a s hg ha hs q⟩
    · simp (disch := omega) only [I_cl] at e1 e2; exact z7 s s' hs hs' e1 e2
    · rw [← z8 g hg]
      exact cnt_cg _ (fun s hs => by simp (disch := omega) only [I_cl])
  have hRM' : RowsM n r0 (sI (sI ρ 1309 (16 * r + m) v) 1308 r (mI ρ 1308 r + 1)) := ⟨yR.2.1, yR.le, yR.2.2.2.2.2.2.1, fun s hs => by
    simp (disch := omega) only [I_cl]; exact hRM.2.2.2 s hs⟩
  have xS' : RelS sc n mc rt hc (sI (sI κ 274 (16 * (60 * f' + i) + m) v) 273 (60 * f' + i) (mI κ 273 (60 * f' + i) + 1)) (sI (sI ρ 1309 (16 * r + m) v) 1308 r (mI ρ 1308 r + 1)) := xS.fr ((Eqv.wI (by simp only [sCc]; omega) _).sI (by simp only [sCc]; omega) _) sme
  have val : ∀ s q, s < r0 → q < 16 → mI (sI (sI ρ 1309 (16 * r + m) v) 1308 r (mI ρ 1308 r + 1)) 1309 (16 * s + q) = if s = r ∧ q = m then v else mI ρ 1309 (16 * s + q) := fun s q hs hq => by
    rw [I_cl (by decide)]
    by_cases e : s = r ∧ q = m
    · obtain ⟨rfl, rfl⟩ := e
      rw [if_pos ⟨rfl, rfl⟩, I_is]
    · rw [if_neg e, I_sl (by omega)]
  have yY : RowsW n r0 mc rt K (sI (sI ρ 1309 (16 * r + m) v) 1308 r (mI ρ 1308 r + 1)) := by
    refine RowsW.upd (r := r) (f := f') (c := d') (x := x') xS xS' xY hRM' sme hr (fun _ h _ => h) (fun _ h => h) (fun s hs hne => ⟨?_, ?_, ?_, fun q hq => ?_⟩) (fun _ => ⟨?_, ?_, ?_⟩) hf ?_ y3 ?_ y5 y6 y7 ?_ (fun q q1 q2 => ?_) (fun q q1 => ?_)
    iterate 3 (simp (disch := omega) only [I_cl])
    · rw [val s q hs hq, if_neg (fun e => hne e.1)]
    iterate 3 (simp (disch := omega) only [I_cl])
    · simp (disch := omega) only [I_cl]; exact y2
    · simp (disch := omega) only [I_cl]; exact y4
    · simp (disch := omega) only [I_cl]; exact y8
    · rw [val r q hr q2, if_neg (by omega)]; exact y9 q q1 q2
    · have key : ∀ s, s < r0 → ¬ (mI ρ 1305 s = nI f' ∧ mI ρ 1306 s = nI x') → s < r0 ∧ mI (sI (sI ρ 1309 (16 * r + m) v) 1308 r (mI ρ 1308 r + 1)) 1305 s = mI ρ 1305 s ∧ mI (sI (sI ρ 1309 (16 * r + m) v) 1308 r (mI ρ 1308 r + 1)) 1306 s = mI ρ 1306 s ∧ mI (sI (sI ρ 1309 (16 * r + m) v) 1308 r (mI ρ 1308 r + 1)) 1307 s = mI ρ 1307 s ∧ mI (sI (sI ρ 1309 (16 * r + m) v) 1308 r (mI ρ 1308 r + 1)) 1309 (16 * s + q) = mI ρ 1309 (16 * s + q) ∧ ∃ d, d < n ∧ mI ρ 1307 s = nI d := fun s hs hn => by
        refine ⟨hs, by simp (disch := omega) only [I_cl], by simp (disch := omega) only [I_cl], by simp (disch := omega) only [I_cl], ?_, hRM.2.2.2 s hs⟩
        rw [val s q hs (by omega), if_neg (fun e => hn (by rw [e.1]; exact ⟨y2, y8⟩))]
      rw [rul_eq xS sme y3 q1 hf key (fun s hs hn => key s hs (fun z => hn (by simp (disch := omega) only [I_cl]; exact z)))]
      rw [val r q hr (by omega)]
      by_cases e : q = m
      · subst e
        rw [if_pos ⟨rfl, rfl⟩, ← y8]; exact hrul
      · rw [if_neg (fun z => e z.2)]
        exact (rule_iff xS hRM hr y3 q1 y2 y8 y4 hf).mp (y10 q q1)
  refine hA.fr_RYZ ((hC.wI _ _ _).wI _ _ _) ((hm.wI _ _ _).wI _ _ _) ((Eqv.wI (by
    intro hh
    rcases hh with hh | hh | hh | hh | hh | hh | hh | hh
    all_goals first | (obtain ⟨u', hu', hh | ⟨j', hj', hh⟩⟩ := hh <;> omega) | (obtain ⟨u', j', hu', hj', e1', e2'⟩ := hh <;> omega) | (simp only [tC, fC, sCc, kC, rC, wC, dC, tM, fM, sM, kM, rM, uM, wM, dM] at hh; omega)) _).sI (by
    intro hh
    rcases hh with hh | hh | hh | hh | hh | hh | hh | hh
    all_goals first | (obtain ⟨u', hu', hh | ⟨j', hj', hh⟩⟩ := hh <;> omega) | (obtain ⟨u', j', hu', hj', e1', e2'⟩ := hh <;> omega) | (simp only [tC, fC, sCc, kC, rC, wC, dC, tM, fM, sM, kM, rM, uM, wM, dM] at hh; omega)) _) ((Eqv.wI (by
    intro hh
    rcases hh with hh | hh | hh | hh | hh | hh | hh
    all_goals first | (obtain ⟨u', hu', hh | ⟨j', hj', hh⟩⟩ := hh <;> omega) | (obtain ⟨u', j', hu', hj', e1', e2'⟩ := hh <;> omega) | (simp only [tC, fC, sCc, kC, rC, wC, dC, tM, fM, sM, kM, rM, uM, wM, dM] at hh; omega)) _).sI (by
    intro hh
    rcases hh with hh | hh | hh | hh | hh | hh | hh
    all_goals first | (obtain ⟨u', hu', hh | ⟨j', hj', hh⟩⟩ := hh <;> omega) | (obtain ⟨u', j', hu', hj', e1', e2'⟩ := hh <;> omega) | (simp only [tC, fC, sCc, kC, rC, wC, dC, tM, fM, sM, kM, rM, uM, wM, dM] at hh; omega)) _) (Nat.le_refl _) yR yY ?_
  have ut : Eqv uM ρ (sI (sI ρ 1309 (16 * r + m) v) 1308 r (mI ρ 1308 r + 1)) := (Eqv.wI (by simp only [uM]; omega) _).sI (by simp only [uM]; omega) _
  obtain ⟨z1, z2, z3, C, z4, z5⟩ := xZ
  refine ⟨fun u u1 u2 k u3 => ?_, fun u u1 u2 k k' => ?_, fun u u' u1 u2 u3 u4 k k' => ?_, C, fun s hs => ?_, fun u u1 u2 k u3 u4 => ?_⟩
  · rw [ut.I ⟨by decide, by decide⟩] at u2
    obtain ⟨s, g, x, q1, q2, q3, q4, q5, q6, q7, q8, q9, q10⟩ := z1 u u1 u2 k u3
    refine ⟨s, g, x, q1, ?_, q3, ?_, q5, q6, ?_, ?_, fun a b => ?_, fun a => ⟨?_, fun s' hs' => ?_⟩⟩
    · rw [ut.I ⟨by decide, by decide⟩]; exact q2
    · rw [ut.I ⟨by decide, by decide⟩]; exact q4
    · rw [ut.I ⟨by decide, by decide⟩]; exact q7
    · rw [ut.I ⟨by decide, by decide⟩]; exact q8
    · obtain ⟨c, c1, c2, c3, c4, c5⟩ := q9 a b
      have := xS.m16 c1
      refine ⟨c, c1, ?_, c3, fun q e1 e2 => ?_, fun q e1 => ?_⟩
      · rw [ut.I ⟨by decide, by decide⟩]; exact c2
      · rw [ut.I ⟨by decide, by decide⟩, ut.I ⟨by decide, by decide⟩]; exact c4 q e1 e2
      · rw [ut.I (a := 1324) ⟨by decide, by decide⟩, sM.me (a := 1290) sme (by decide) (by decide) (by omega) (by omega), sM.me (a := 1291) sme (by decide) (by decide) (by omega) (by omega)]; exact c5 q e1
    · rw [ut.I ⟨by decide, by decide⟩]; exact (q10 a).1
    · simp (disch := omega) only [I_cl]; exact (q10 a).2 s' hs'
  · rw [ut.I ⟨by decide, by decide⟩] at u2
    rw [ut.I ⟨by decide, by decide⟩, ut.I ⟨by decide, by decide⟩, ut.I ⟨by decide, by decide⟩, ut.I ⟨by decide, by decide⟩]
    exact z2 u u1 u2 k k'
  · rw [ut.I ⟨by decide, by decide⟩] at u3 u4
    simp (disch := omega) only [I_cl]
    exact z3 u u' u1 u2 u3 u4 k k'
  · simp (disch := omega) only [I_cl]; exact z4 s hs
  · rw [ut.I ⟨by decide, by decide⟩] at u2
    simp (disch := omega) only [I_cl] at u4 ⊢
    exact z5 u u1 u2 k u3 u4
end OTHER
