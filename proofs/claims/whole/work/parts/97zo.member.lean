/-! a member being read -/
def updN (f : Nat → Nat) (c v : Nat) : Nat → Nat := fun j => if j = c then v else f j
theorem updN_is (f : Nat → Nat) (c v : Nat) : updN f c v c = v := if_pos rfl
theorem updN_no {f : Nat → Nat} {c v j : Nat} (h : j ≠ c) : updN f c v j = f j := if_neg h
def DSk (sd nw : Nat) (κ ρ : Mem) (x k kd f : Nat) : Prop := ∃ w, (kd ≤ 5 ∧ mI κ x 2 = nI kd ∧ mI ρ 1290 k = nI kd) ∧ (f ≤ 6 ∧ mI κ x 3 = nI f ∧ mI ρ 1294 k = nI f ∧ (kd < 4 → f ≤ 1) ∧ (kd = 4 → f % 2 = 0) ∧ (kd = 5 → f = 0 ∨ f = 4)) ∧ (mI κ x 5 = nI w ∧ mI ρ 1293 k = nI w ∧ (3 ≠ kd → w = 0)) ∧ (kd = 3 → DNam sd nw κ ρ x k w) ∧ (4 ≤ kd → WdR (mJ κ x 6) (mJ ρ 1297 k) ∧ mI κ x 7 = mI ρ 1298 k) ∧ (kd = 5 → WdR (mJ κ x 9) (mJ ρ 1299 k) ∧ mI κ x 10 = mI ρ 1300 k)
def mfC (sd c mcc x nw a q : Nat) : Prop := ¬ (a = 3 ∧ q = 4 ∨ a = sd ∧ (q = 2 ∨ q = 4) ∨ a = x ∨ a = sd + 5 + 5 * c ∧ q = mcc ∨ a = sd + 4 + 5 * c ∧ q = 4 ∨ a = sd + 3 ∧ nw ≤ q)
def mfM (k nw a q : Nat) : Prop := ¬ (a = 1282 ∧ (q = 25 ∨ 49 ≤ q ∧ q ≤ 53) ∨ 1289 ≤ a ∧ a ≤ 1300 ∧ q = k ∨ a = 1304 ∧ 1600 + nw ≤ q)
def MbS (κ0 ρ0 : Mem) (sd : Nat) (B : Nat → Nat) (z T : Nat) (κa ρa : Mem) (c mcc tm nw x k : Nat) (κ ρ : Mem) (i nw' : Nat) : Prop := PS κ0 ρ0 sd B z T κ ρ i ∧ (Eqv (mfC sd c mcc x nw) κa κ ∧ Eqv (mfM k nw) ρa ρ) ∧ (mR κ (sd + 5 + 5 * c) mcc = x ∧ mI κ (sd + 4 + 5 * c) 4 = nI (mcc + 1) ∧ mI κ sd 2 = nI (tm + 1)) ∧ ((mI κ x 1 = nI c ∧ mI ρ 1296 k = nI c) ∧ WdR (mJ κ x 0) (mJ ρ 1289 k)) ∧ (2 * nw' ≤ i ∧ nw ≤ nw' ∧ mI κ sd 4 = nI nw' ∧ mI ρ 1282 25 = nI (1600 + nw')) ∧ (c < 12 ∧ mcc < 16 ∧ x = sd + 64 + tm ∧ tm < 192 ∧ k = 16 * (13 + c) + mcc)
section MEMB
variable {κ0 ρ0 κa ρa κ κ' ρ ρ' ρ2 : Mem} {sd z T i c mcc tm nw nw' x k kd f n : Nat} {B : Nat → Nat} {mc rt hc ow tb : Nat → Nat}
theorem DSk.srt (h : DSk sd nw κ ρ x k kd f) : DSrt sd nw κ ρ x k := by
  obtain ⟨w, h⟩ := h
  exact ⟨kd, f, w, h⟩
theorem DSk.fr (h : DSk sd nw κ ρ x k kd f) (e1 : ∀ j, mI κ' x j = mI κ x j ∧ mJ κ' x j = mJ κ x j) (e2 : ∀ a, 1289 ≤ a → a ≤ 1300 → mI ρ' a k = mI ρ a k ∧ mJ ρ' a k = mJ ρ a k) (e3 : ∀ j, j < nw → mJ κ' (sd + 3) j = mJ κ (sd + 3) j ∧ mJ ρ' 1304 (1600 + j) = mJ ρ 1304 (1600 + j)) : DSk sd nw κ' ρ' x k kd f := by
  obtain ⟨w, a1, a2, a3, a4, a5, a6⟩ := h
  have g : ∀ a, 1289 ≤ a → a ≤ 1300 → mI ρ' a k = mI ρ a k := fun a h1 h2 => (e2 a h1 h2).1
  refine ⟨w, ?_, ?_, ?_, fun q => ?_, fun q => ?_, fun q => ?_⟩
  · rw [(e1 2).1, g 1290 (by decide) (by decide)]; exact a1
  · rw [(e1 3).1, g 1294 (by decide) (by decide)]; exact a2
  · rw [(e1 5).1, g 1293 (by decide) (by decide)]; exact a3
  · exact (a4 q).fr (e1 4).1 (g 1292 (by decide) (by decide)) e3
  · rw [(e1 6).2, (e2 1297 (by decide) (by decide)).2, (e1 7).1, g 1298 (by decide) (by decide)]; exact a5 q
  · rw [(e1 9).2, (e2 1299 (by decide) (by decide)).2, (e1 10).1, g 1300 (by decide) (by decide)]; exact a6 q
/-- the next token -/
theorem DSk.ps (h : DSk sd nw κ ρ x k kd f) (hs : sd = 14 ∨ sd = 275) (hx : sd + 64 ≤ x) (e : Eqv avM ρ ρ2) : DSk sd nw (psC κ i) ρ2 x k kd f := by
  refine h.fr (fun j => ⟨I_cl (by omega), rfl⟩) (fun a a1 a2 => ?_) (fun j hj => ⟨rfl, e.J (by unfold avM; omega)⟩)
  have := e a k (by unfold avM; omega)
  exact ⟨this.1, this.2.1⟩
/-- a flag -/
theorem DSk.flag (h : DSk sd nw κ ρ x k kd f) (hs : sd = 14 ∨ sd = 275) (hx : sd + 64 ≤ x) {g : Nat} (hg : g ≤ 6 ∧ (kd < 4 → g ≤ 1) ∧ (kd = 4 → g % 2 = 0) ∧ (kd = 5 → g = 0 ∨ g = 4)) : DSk sd nw (sI κ x 3 (nI g)) (sI ρ 1294 k (nI g)) x k kd g := by
  obtain ⟨w, a1, a2, a3, a4, a5, a6⟩ := h
  refine ⟨w, ?_, ⟨hg.1, I_is _ _ _ _, I_is _ _ _ _, hg.2⟩, ?_, fun q => ?_, fun q => ?_, fun q => ?_⟩
  · simp (disch := omega) only [I_is, I_cl, I_sl, J_is, J_cl, J_sl, R_is, R_cl, R_sl, mI_sJ, mI_sR, mJ_sI, mJ_sR, mR_sI, mR_sJ]; exact a1
  · simp (disch := omega) only [I_is, I_cl, I_sl, J_is, J_cl, J_sl, R_is, R_cl, R_sl, mI_sJ, mI_sR, mJ_sI, mJ_sR, mR_sI, mR_sJ]; exact a3
  · exact (a4 q).fr (I_sl (by decide)) (I_cl (by decide)) (fun j hj => ⟨rfl, rfl⟩)
  · simp (disch := omega) only [I_is, I_cl, I_sl, J_is, J_cl, J_sl, R_is, R_cl, R_sl, mI_sJ, mI_sR, mJ_sI, mJ_sR, mR_sI, mR_sJ]; exact a5 q
  · simp (disch := omega) only [I_is, I_cl, I_sl, J_is, J_cl, J_sl, R_is, R_cl, R_sl, mI_sJ, mI_sR, mJ_sI, mJ_sR, mR_sI, mR_sJ]; exact a6 q
theorem MbS.ps (h : MbS κ0 ρ0 sd B z T κa ρa c mcc tm nw x k κ ρ i nw') (hi : i < T) (h2 : StM ρ2) (e : Eqv avM ρ ρ2) (t : TM ρ2 B z (pos B z (i + 1))) : MbS κ0 ρ0 sd B z T κa ρa c mcc tm nw x k (psC κ i) ρ2 (i + 1) nw' := by
  obtain ⟨hP, ⟨e1, e2⟩, ⟨f1, f2, f3⟩, ⟨⟨g1, g2⟩, g3⟩, ⟨l1, l2, l3, l4⟩, b1, b2, b3, b4, b5⟩ := h
  have hs := hP.2.2.2.2
  refine ⟨hP.ps hi h2 e t, ⟨e1.sI (fun h => h (by omega)) _, e2.tr (e.mo fun a q h => by unfold mfM at h; unfold avM; omega)⟩, ⟨f1, ?_, ?_⟩, ⟨⟨?_, ?_⟩, ?_⟩, ⟨by omega, l2, ?_, ?_⟩, b1, b2, b3, b4, b5⟩
  · rw [I_cl (by omega)]; exact f2
  · rw [I_cl (by omega)]; exact f3
  · rw [I_cl (by omega)]; exact g1
  · rw [e.I (by unfold avM; omega)]; exact g2
  · rw [e.J (by unfold avM; omega)]; exact g3
  · rw [I_cl (by omega)]; exact l3
  · rw [e.I (by unfold avM; omega)]; exact l4
/-- what the member is -/
theorem MbS.wr (h : MbS κ0 ρ0 sd B z T κa ρa c mcc tm nw x k κ ρ i nw') (h1 : StC κ') (h2 : StM ρ') (e1 : Eqv (fun a q => ¬ (a = x ∧ 2 ≤ q)) κ κ') (e2 : Eqv (fun a q => ¬ (1290 ≤ a ∧ a ≤ 1300 ∧ a ≠ 1296 ∧ q = k)) ρ ρ') : MbS κ0 ρ0 sd B z T κa ρa c mcc tm nw x k κ' ρ' i nw' := by
  obtain ⟨hP, ⟨y1, y2⟩, ⟨f1, f2, f3⟩, ⟨⟨g1, g2⟩, g3⟩, ⟨l1, l2, l3, l4⟩, b1, b2, b3, b4, b5⟩ := h
  have hs := hP.2.2.2.2
  refine ⟨hP.fr h1 h2 (e1.mo fun a q h => by unfold drC at h; omega) (e2.mo fun a q h hh => h (Or.inr (by unfold upM; omega))), ⟨y1.tr (e1.mo fun a q h => by unfold mfC at h; omega), y2.tr (e2.mo fun a q h => by unfold mfM at h; omega)⟩, ⟨?_, ?_, ?_⟩, ⟨⟨?_, ?_⟩, ?_⟩, ⟨l1, l2, ?_, ?_⟩, b1, b2, b3, b4, b5⟩
  · rw [e1.R (by omega)]; exact f1
  · rw [e1.I (by omega)]; exact f2
  · rw [e1.I (by omega)]; exact f3
  · rw [e1.I (by omega)]; exact g1
  · rw [e2.I (by omega)]; exact g2
  · rw [e1.J (by omega), e2.J (by omega)]; exact g3
  · rw [e1.I (by omega)]; exact l3
  · rw [e2.I (by omega)]; exact l4
theorem DB.mono (h : DB sd n nw mc rt hc ow tb κ ρ) (h1 : nw ≤ nw') (h2 : nw' ≤ 1500) : DB sd n nw' mc rt hc ow tb κ ρ := by
  obtain ⟨h3, h4, h5, h6⟩ := h
  refine ⟨fun c hcn => ?_, h4, h5, h2⟩
  obtain ⟨a1, a2, a3, a4⟩ := h3 c hcn
  refine ⟨a1, a2, fun m m1 m2 => ?_, a4⟩
  obtain ⟨b1, b2, b3, kd, f, w, c1, c2, c3, c4, c5⟩ := a3 m m1 m2
  refine ⟨b1, b2, b3, kd, f, w, c1, c2, c3, fun q => ?_, c5⟩
  obtain ⟨a, d1, d2, d3, d4⟩ := c4 q
  exact ⟨a, d1, d2, by omega, d4⟩
/-- a further member -/
theorem DRf.addM (h : DRf sd (c + 1) nw mc rt hc ow tb κa ρa) (hM : MbS κ0 ρ0 sd B z T κa ρa c (mc c) (tb (c + 1)) nw x k κ ρ i nw') (h4 : nw' ≤ 1500) (hD : DSrt sd nw' κ ρ x k) : DRf sd (c + 1) nw' (updN mc c (mc c + 1)) rt hc ow (updN tb (c + 1) (tb (c + 1) + 1)) κ (sI ρ 1287 (13 + c) (nI (mc c + 1))) := by
  obtain ⟨hB, hN, ⟨q1, q2, q3⟩, q4, q5⟩ := h
  obtain ⟨hP, ⟨y1, y2⟩, ⟨f1, f2, f3⟩, ⟨⟨g1, g2⟩, g3⟩, ⟨l1, l2, l3, l4⟩, b1, b2, b3, b4, b5⟩ := hM
  have hs := hP.2.2.2.2
  have law := hB.2.1
  have hcl := law.2 c (by omega)
  have hB2 : DB sd (c + 1) nw mc rt hc ow tb κ (sI ρ 1287 (13 + c) (nI (mc c + 1))) := by
    refine hB.fr (y1.mo fun a q hh => ?_) ((y2.mo fun a q hh => ?_).sI ?_ _)
    · unfold mfC
      rcases hh with ⟨c', hc', hh⟩ | hh | hh
      · by_cases e : c' = c
        · subst e; omega
        · omega
      · omega
      · omega
    · unfold mfM
      rcases hh with ⟨c', hc', hh | ⟨hh1, hh2, m, hm, hh⟩ | ⟨hh1, hh2, m, hm, hh⟩⟩ | hh
      · omega
      · have := law.2 c' hc'
        by_cases e : c' = c
        · subst e; omega
        · omega
      · omega
      · omega
    · rintro (⟨c', hc', hh | ⟨hh1, hh2, m, hm, hh⟩ | ⟨hh1, hh2, m, hm, hh⟩⟩ | hh) <;> omega
  have hB3 := hB2.mono l2 h4
  obtain ⟨z1, z2, z3, z4⟩ := hB3
  refine ⟨⟨fun c' hc' => ?_, ⟨?_, fun c' hc' => ?_⟩, z3, z4⟩, fun c' hc' => ?_, ⟨?_, ?_, l3⟩, ?_, ?_⟩
  · obtain ⟨a1, a2, a3, a4⟩ := z1 c' hc'
    refine ⟨a1, ?_, fun m m1 m2 => ?_, fun q hq => ?_⟩
    · rcases a2 with a2 | ⟨p, p1, p2, p3, p4, p5, p6⟩
      · exact Or.inl a2
      · have ep : updN mc c (mc c + 1) p = mc p := updN_no (by omega)
        refine Or.inr ⟨p, p1, p2, p3, ?_, p5, fun m hm => ?_⟩
        · rw [ep]; exact p4
        · rw [ep] at hm; exact p6 m hm
    · have et : updN tb (c + 1) (tb (c + 1) + 1) c' = tb c' := updN_no (by omega)
      rw [et]
      by_cases e : c' = c
      · subst e
        rw [updN_is] at m2
        by_cases e2 : m = mc c'
        · subst e2
          have ex : sd + 64 + tb c' + (mc c' - ow c') = x := by omega
          rw [ex]
          refine ⟨f1, ⟨g1, ?_⟩, ?_, ?_⟩
          · rw [I_cl (by decide), ← b5]; exact g2
          · rw [mJ_sI, ← b5]; exact g3
          · rw [← b5]
            exact hD.fr (fun j => ⟨rfl, rfl⟩) (fun a a1 a2 => ⟨I_cl (by omega), rfl⟩) (fun j hj => ⟨rfl, rfl⟩)
        · exact a3 m m1 (by omega)
      · rw [updN_no e] at m2; exact a3 m m1 m2
    · obtain ⟨a5, ⟨m, m1, m2⟩, a6⟩ := a4 q hq
      refine ⟨a5, ⟨m, ?_, m2⟩, a6⟩
      by_cases e : c' = c
      · subst e; rw [updN_is]; omega
      · rw [updN_no e]; exact m1
  · rw [updN_no (by omega)]; exact law.1
  · have l := law.2 c' hc'
    rw [updN_no (f := tb) (j := c') (by omega)]
    by_cases e : c' = c
    · subst e; rw [updN_is, updN_is]; omega
    · rw [updN_no e, updN_no (by omega)]; exact l
  · obtain ⟨⟨k1, k2⟩, k3, k4⟩ := hN c' hc'
    unfold DCnt
    have e6 : mI κ (sd + 4 + 5 * c') 6 = nI (hc c') := by rw [y1.I (by unfold mfC; omega)]; exact k3
    have e8 : mI (sI ρ 1287 (13 + c) (nI (mc c + 1))) 1288 (13 + c') = nI (hc c') := by rw [I_cl (by decide), y2.I (by unfold mfM; omega)]; exact k4
    by_cases e : c' = c
    · subst e
      rw [updN_is]
      exact ⟨⟨f2, I_is _ _ _ _⟩, e6, e8⟩
    · rw [updN_no e]
      refine ⟨⟨?_, ?_⟩, e6, e8⟩
      · rw [y1.I (by unfold mfC; omega)]; exact k1
      · rw [I_sl (by omega), y2.I (by unfold mfM; omega)]; exact k2
  · rw [y1.I (by unfold mfC; omega)]; exact q1
  · rw [updN_is]; exact f3
  · rw [I_cl (by decide), y2.I (by unfold mfM; omega)]; exact q4
  · rw [I_cl (by decide)]; exact l4
end MEMB
