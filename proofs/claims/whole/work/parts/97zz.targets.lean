/-! the first of the names -/
def fdx (f : Nat → Int64) (v : Int64) : Nat → Int32
  | 0 => -1
  | n + 1 => if fdx f v n = -1 then (if f n = v then nI n else -1) else fdx f v n
section FDX
variable {f g : Nat → Int64} {v w : Int64}
theorem fdx_cases : ∀ n : Nat, n < 2147483648 → (fdx f v n = -1 ∧ ∀ j, j < n → f j ≠ v) ∨ ∃ c, c < n ∧ fdx f v n = nI c ∧ f c = v ∧ ∀ j, j < c → f j ≠ v := by
  intro n
  induction n with
  | zero => intro _; exact Or.inl ⟨rfl, fun j hj => by omega⟩
  | succ n ih =>
    intro hn
    show ((if fdx f v n = -1 then (if f n = v then nI n else -1) else fdx f v n) = -1 ∧ _) ∨ ∃ c, c < n + 1 ∧ (if fdx f v n = -1 then (if f n = v then nI n else -1) else fdx f v n) = nI c ∧ _
    rcases ih (by omega) with ⟨e, h⟩ | ⟨c, hc, e, h1, h2⟩
    · rw [if_pos e]
      by_cases hv : f n = v
      · rw [if_pos hv]
        exact Or.inr ⟨n, by omega, rfl, hv, h⟩
      · rw [if_neg hv]
        refine Or.inl ⟨rfl, fun j hj => ?_⟩
        by_cases e : j = n
        · subst e; exact hv
        · exact h j (by omega)
    · rw [e, if_neg (mI1 (by omega))]
      exact Or.inr ⟨c, by omega, rfl, h1, h2⟩
theorem fdx_cg : ∀ n : Nat, (∀ j, j < n → (f j = v ↔ g j = w)) → fdx f v n = fdx g w n := by
  intro n
  induction n with
  | zero => intro _; rfl
  | succ n ih =>
    intro h
    show (if fdx f v n = -1 then (if f n = v then nI n else -1) else fdx f v n) = if fdx g w n = -1 then (if g n = w then nI n else -1) else fdx g w n
    rw [ih fun j hj => h j (by omega)]
    by_cases e : f n = v
    · rw [if_pos e, if_pos ((h n (by omega)).mp e)]
    · rw [if_neg e, if_neg (fun x => e ((h n (by omega)).mpr x))]
theorem fdx_x {f' : Nat → Int64} {n : Nat} (h : ∀ j, j < n → f j = f' j) : fdx f v n = fdx f' v n := fdx_cg n fun j hj => by rw [h j hj]
end FDX
section TGT
variable {G : Lay} {κ κ' ρ ρ' ρ1 κ1 : Mem} {sd s n nw c m t : Nat} {mc rt hc ow tb : Nat → Nat} {v : Int64} {Q : Int32 → Mem → Prop}
theorem c_clsNamed (hG : Ly G) (hC : StC κ) (hs : s = 14 ∨ s = 275) (hn : mI κ s 0 = nI n) (h12 : n ≤ 12) (q : Q (fdx (fun j => mJ κ (s + 4 + 5 * j) 0) v n) (mg κ ρ1)) : X_X6_classNamed G Q s v (mg κ ρ1) := by
  rcases fdx_cases (f := fun j => mJ κ (s + 4 + 5 * j) 0) (v := v) n (by omega) with ⟨e, h⟩ | ⟨c, hc, e, h1, h2⟩
  · rw [e] at q; exact c_classNamed0 hG hC hs hn h12 h q
  · rw [e] at q; exact c_classNamed1 hG hC hs hn h12 hc h1 h2 q
theorem m_clsNamed (hM : LyM G) (hm : StM ρ) (h12 : n ≤ 12) (q : Q (fdx (fun j => mJ ρ 1284 (13 + j)) v n) (mg κ1 ρ)) : X_X12_classNamed G Q 1282 13 (nI n) v (mg κ1 ρ) := by
  rcases fdx_cases (f := fun j => mJ ρ 1284 (13 + j)) (v := v) n (by omega) with ⟨e, h⟩ | ⟨c, hc, e, h1, h2⟩
  · rw [e] at q; exact m_classNamed0 (b := 13) hM hm (by decide) h12 h q
  · rw [e] at q; exact m_classNamed1 (b := 13) hM hm (by decide) h12 hc h1 h2 q
/-- what member a told one is -/
theorem DLaw.told : ∀ {n : Nat}, DLaw n mc hc ow tb → ∀ i, i < tb n → ∃ c m, c < n ∧ ow c ≤ m ∧ m < mc c ∧ i = tb c + (m - ow c) := by
  intro n
  induction n with
  | zero => intro h i hi; rw [h.1] at hi; omega
  | succ n ih =>
    intro h i hi
    have l := h.2 n (by omega)
    by_cases hlt : i < tb n
    · obtain ⟨c, m, h1, h2⟩ := ih ⟨h.1, fun c hc => h.2 c (by omega)⟩ i hlt
      exact ⟨c, m, by omega, h2⟩
    · exact ⟨n, ow n + (i - tb n), by omega, by omega, by omega, by omega⟩
theorem c_leading {x kd : Nat} (hx : gT G x = 3) (hx2 : x < 1282) (h5 : kd ≤ 5) (e : mI κ x 2 = nI kd) (q : Q (if 4 ≤ kd then 1 else 0) (mg κ ρ1)) : X_X2_isLeading G Q x (mg κ ρ1) := by
  have n4 : (4 : Int32) = nI 4 := rfl
  have n5 : (5 : Int32) = nI 5 := rfl
  rcases (by omega : kd < 4 ∨ kd = 4 ∨ kd = 5) with h | h | h
  · rw [if_neg (by omega)] at q
    simp (disch := omega) only [X_X2_isLeading_21, X_X2_isLeading_16, X_X2_isLeading_0, X_X2_isLeading, mI_c, hx, e, n4, n5, lT, lF, tT, tF, eF, pF, zT, m1F, vT, cI, true_and, and_true, true_implies, false_implies, not_false_eq_true, not_true_eq_false, forall_eq, implies_true, bzT0]
    exact q
  · subst h
    rw [if_pos (by omega)] at q
    simp (disch := omega) only [X_X2_isLeading_21, X_X2_isLeading_16, X_X2_isLeading_0, X_X2_isLeading, mI_c, hx, e, n4, n5, lT, lF, tT, tF, eF, pF, zT, m1F, vT, cI, true_and, and_true, true_implies, false_implies, not_false_eq_true, not_true_eq_false, forall_eq, implies_true, bzT1, eT]
    exact q
  · subst h
    rw [if_pos (by omega)] at q
    simp (disch := omega) only [X_X2_isLeading_21, X_X2_isLeading_16, X_X2_isLeading_0, X_X2_isLeading, mI_c, hx, e, n4, n5, lT, lF, tT, tF, eF, pF, zT, m1F, vT, cI, true_and, and_true, true_implies, false_implies, not_false_eq_true, not_true_eq_false, forall_eq, implies_true, bzT1, eT]
    exact q
def tgC (κ : Mem) (sd n x : Nat) : Int32 := fdx (fun j => mJ κ (sd + 4 + 5 * j) 0) (mJ κ x 6) n
def tgM (ρ : Mem) (n k : Nat) : Int32 := fdx (fun j => mJ ρ 1284 (13 + j)) (mJ ρ 1297 k) n
theorem DB.tg (h : DB sd n nw mc rt hc ow tb κ ρ) (hcn : c < n) (h1 : ow c ≤ m) (h2 : m < mc c) (hk : ∃ kd, 4 ≤ kd ∧ kd ≤ 5 ∧ mI ρ 1290 (16 * (13 + c) + m) = nI kd) : tgC κ sd n (sd + 64 + tb c + (m - ow c)) = tgM ρ n (16 * (13 + c) + m) := by
  obtain ⟨-, -, -, kd, f, w, ⟨a1, a2, a3⟩, -, -, -, a5, -⟩ := (h.1 c hcn).2.2.1 m h1 h2
  obtain ⟨k2, k3, k4, k5⟩ := hk
  rw [a3] at k5
  have := (eI (by omega) (by omega)).mp k5
  exact fdx_cg n fun j hj => ((h.1 j hj).1.1).iff (a5 (by omega)).1
theorem c_findTargets (hG : Ly G) (hC : StC κ) (hR : DRf sd n nw mc rt hc ow tb κ ρ) (hs : sd = 14 ∨ sd = 275) (h71 : mR κ 7 1 = sd) : ∃ κ', RunC0 (fun Q σ => X_X0_findTargets G Q 7 σ) κ κ' ∧ StC κ' ∧ Eqv (fun a k => ¬ (sd + 64 ≤ a ∧ a < sd + 256 ∧ k = 8)) κ κ' ∧ ∀ i, i < tb n → (∃ kd, 4 ≤ kd ∧ kd ≤ 5 ∧ mI κ (sd + 64 + i) 2 = nI kd) → mI κ' (sd + 64 + i) 8 = tgC κ sd n (sd + 64 + i) := by
  have hL := hG.1
  have hT := hG.s hs
  obtain ⟨hB, hN, ⟨q1, q2, q3⟩, q4, q5⟩ := id hR
  have h12 := hB.2.2.1
  have le := hB.2.1.le n (Nat.le_refl _)
  have srt : ∀ i, i < tb n → ∃ kd, kd ≤ 5 ∧ mI κ (sd + 64 + i) 2 = nI kd := fun i hi => by
    obtain ⟨c, m, c1, c2, c3, c4⟩ := hB.2.1.told i hi
    obtain ⟨-, -, -, kd, f, w, ⟨a1, a2, a3⟩, -⟩ := (hB.1 c c1).2.2.1 m c2 c3
    refine ⟨kd, a1, ?_⟩
    rw [c4, ← a2, show sd + 64 + (tb c + (m - ow c)) = sd + 64 + tb c + (m - ow c) by omega]
  obtain ⟨⟨b1, κa⟩, ⟨hb, hCa, fra, fa⟩, run⟩ := Lw.run (ι := Mem × (Mem → Prop)) (fun z => X_X0_findTargets_2_s G z.2 7) (fun (b : Nat × Mem) z => (nI b.1, mg b.2 z.1)) (tb n) (fun i b => b.1 = i ∧ StC b.2 ∧ Eqv (fun a k => ¬ (sd + 64 ≤ a ∧ a < sd + 256 ∧ k = 8)) κ b.2 ∧ ∀ j, j < i → (∃ kd, 4 ≤ kd ∧ kd ≤ 5 ∧ mI κ (sd + 64 + j) 2 = nI kd) → mI b.2 (sd + 64 + j) 8 = tgC κ sd n (sd + 64 + j)) (by
    rintro i ⟨b1, κb⟩ hi ⟨hb, hC, fr, ff⟩
    have hb : b1 = i := hb
    subst hb
    have hC : StC κb := hC
    have hK := hC.ss hs
    have fr : Eqv _ κ κb := fr
    have ff : ∀ j, j < b1 → (∃ kd, 4 ≤ kd ∧ kd ≤ 5 ∧ mI κ (sd + 64 + j) 2 = nI kd) → mI κb (sd + 64 + j) 8 = tgC κ sd n (sd + 64 + j) := ff
    obtain ⟨kd, kd5, ek⟩ := srt b1 hi
    have ek' : mI κb (sd + 64 + b1) 2 = nI kd := (fr.I (by omega)).trans ek
    have e71 : mR κb 7 1 = sd := (fr.R (by omega)).trans h71
    have e2 : mI κb sd 2 = nI (tb n) := (fr.I (by omega)).trans q2
    have e0 : mI κb sd 0 = nI n := (fr.I (by omega)).trans q1
    have g3 : gT G (sd + 64 + b1) = 3 := hT.2.2 b1 (by omega)
    have et : tgC κb sd n (sd + 64 + b1) = tgC κ sd n (sd + 64 + b1) := by
      unfold tgC
      rw [fr.J (a := sd + 64 + b1) (k := 6) (by omega)]
      exact fdx_x fun j hj => fr.J (by omega)
    by_cases h4 : 4 ≤ kd
    · refine ⟨(b1 + 1, sI κb (sd + 64 + b1) 8 (tgC κ sd n (sd + 64 + b1))), ⟨rfl, hC.wI _ _ _, fr.sI (fun h => h (by omega)) _, fun j hj hk => ?_⟩, fun z K hK' => ?_⟩
      · show mI (sI κb _ _ _) _ _ = _
        by_cases e : j = b1
        · subst e; exact I_is _ _ _ _
        · rw [I_cl (by omega)]; exact ff j (by omega) hk
      · show X_X0_findTargets_2_s G z.2 7 K (nI b1, mg κb z.1)
        simp (disch := omega) only [X_X0_findTargets_2_s, mI_c, mR_c, mJ_c, sI_c, sJ_c, sR_c, hL.1, hL.2.1, hL.2.2, hC.1, hC.2.1, hC.2.2.1, hT.1, e71, e2, hK.1, hK.2.2, g3, lT, lF, tT, tF, eF, pF, zT, m1F, vT, cI, true_and, and_true, true_implies, false_implies, not_false_eq_true, not_true_eq_false, forall_eq, implies_true]
        refine c_leading g3 (by omega) kd5 ek' ?_
        rw [if_pos h4]
        refine br1 ?_
        simp (disch := omega) only [mI_c, mR_c, mJ_c, sI_c, sJ_c, sR_c, hL.1, hL.2.1, hL.2.2, hC.1, hC.2.1, hC.2.2.1, hT.1, e71, lT, lF, tT, tF, eF, pF, zT, m1F, vT, cI, true_and, and_true, true_implies, false_implies, not_false_eq_true, not_true_eq_false, forall_eq, implies_true]
        refine c_clsNamed hG hC hs e0 h12 ?_
        show X_X0_findTargets_45 G z.2 K 7 (nI b1) (sI (mg κb z.1) (sd + 64 + b1) 8 (tgC κb sd n (sd + 64 + b1)))
        rw [et]
        simp (disch := omega) only [X_X0_findTargets_45, mI_c, mR_c, mJ_c, sI_c, sJ_c, sR_c, hL.1, hL.2.1, hL.2.2, hC.1, hC.2.1, hC.2.2.1, lT, lF, tT, tF, eF, pF, zT, m1F, vT, cI, true_and, and_true, true_implies, false_implies, not_false_eq_true, not_true_eq_false, forall_eq, implies_true, I_is, I_cl, I_sl, J_is, J_cl, J_sl, R_is, R_cl, R_sl, mI_sJ, mI_sR, mJ_sI, mJ_sR, mR_sI, mR_sJ, nI_1]
        exact hK'
    · refine ⟨(b1 + 1, κb), ⟨rfl, hC, fr, fun j hj hk => ?_⟩, fun z K hK' => ?_⟩
      · show mI κb _ _ = _
        by_cases e : j = b1
        · subst e
          obtain ⟨k2, k3, k4, k5⟩ := hk
          rw [ek] at k5
          have := (eI (by omega) (by omega)).mp k5
          omega
        · exact ff j (by omega) hk
      · show X_X0_findTargets_2_s G z.2 7 K (nI b1, mg κb z.1)
        simp (disch := omega) only [X_X0_findTargets_2_s, mI_c, mR_c, mJ_c, sI_c, sJ_c, sR_c, hL.1, hL.2.1, hL.2.2, hC.1, hC.2.1, hC.2.2.1, hT.1, e71, e2, hK.1, hK.2.2, g3, lT, lF, tT, tF, eF, pF, zT, m1F, vT, cI, true_and, and_true, true_implies, false_implies, not_false_eq_true, not_true_eq_false, forall_eq, implies_true]
        refine c_leading g3 (by omega) kd5 ek' ?_
        rw [if_neg h4]
        refine br0 ?_
        simp (disch := omega) only [X_X0_findTargets_45, lT, lF, tT, tF, eF, pF, zT, m1F, vT, cI, true_and, and_true, true_implies, false_implies, not_false_eq_true, not_true_eq_false, forall_eq, implies_true, nI_1]
        exact hK') 0 (Nat.zero_le _) (0, κ) ⟨rfl, hC, Eqv.rf, fun r h => by omega⟩
  have hb : b1 = tb n := hb
  subst hb
  have hCa : StC κa := hCa
  have fra : Eqv _ κ κa := fra
  refine ⟨κa, fun ρ1 Q hQ => ?_, hCa, fra, fa⟩
  have e71 : mR κa 7 1 = sd := (fra.R (by omega)).trans h71
  have e2 : mI κa sd 2 = nI (tb n) := (fra.I (by omega)).trans q2
  refine run (ρ1, Q) (fun K => ?_)
  show X_X0_findTargets_2_s G Q 7 K (nI (tb n), mg κa ρ1)
  have hC := hCa
  simp (disch := omega) only [X_X0_findTargets_2_s, mI_c, mR_c, mJ_c, sI_c, sJ_c, sR_c, hL.1, hL.2.1, hL.2.2, hC.1, hC.2.1, hC.2.2.1, hT.1, e71, e2, lT, lF, tT, tF, eF, pF, zT, m1F, vT, cI, true_and, and_true, true_implies, false_implies, not_false_eq_true, not_true_eq_false, forall_eq, implies_true]
  exact hQ
end TGT
