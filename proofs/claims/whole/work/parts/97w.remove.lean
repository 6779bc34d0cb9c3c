section REMOVE
variable {G : Lay} {nn sc n r0 r1 w : Nat} {mc rt hc K N N1 us : Nat → Nat} {κ κ' κ0 ρ ρ' ρ0 κ1 ρ1 : Mem} {u k f q : Nat}
/-- a row of the reference, as another was -/
def reE (ρ ρ' : Mem) (j i : Nat) : Prop := mI ρ' 1305 j = mI ρ 1305 i ∧ mI ρ' 1306 j = mI ρ 1306 i ∧ mI ρ' 1307 j = mI ρ 1307 i ∧ mI ρ' 1308 j = mI ρ 1308 i ∧ ∀ m, m < 16 → mI ρ' 1309 (16 * j + m) = mI ρ 1309 (16 * i + m)
theorem cnt_sh {g g' : Nat → Int32} {x : Int32} {r : Nat} (h1 : ∀ j, j < r → g' j = g j) : ∀ n, r ≤ n → (∀ j, r ≤ j → j < n → g' j = g (j + 1)) → cnt g x (n + 1) = cnt g' x n + if g r = x then 1 else 0 := by
  intro n
  induction n with
  | zero =>
    intro h _
    obtain rfl : r = 0 := by omega
    rfl
  | succ n ih =>
    intro h h2
    by_cases e : r = n + 1
    · subst e
      show cnt g x (n + 1) + _ = _
      rw [cnt_cg (n + 1) (fun j hj => (h1 j hj).symm)]
    · have := ih (by omega) (fun j a b => h2 j a (by omega))
      show cnt g x (n + 1) + (if g (n + 1) = x then 1 else 0) = cnt g' x n + (if g' n = x then 1 else 0) + _
      rw [this, h2 n (by omega) (by omega)]
      omega
theorem RelR.del (xR : RelR N r0 κ ρ) {r : Nat} (hf : f < 12) (hq : q < N f) (hr : r < r0) (hrow : RowR κ ρ f q r)
    (c1 : mI κ' 270 f = nI (N f - 1)) (c2 : ∀ g, g < 12 → g ≠ f → mI κ' 270 g = mI κ 270 g) (c3 : ∀ g, g < 12 → g ≠ f → ∀ i, i < 60 → rwE κ κ' (60 * g + i) (60 * g + i)) (c4 : ∀ i, i < q → rwE κ κ' (60 * f + i) (60 * f + i)) (c5 : ∀ i, q ≤ i → i + 1 < N f → rwE κ κ' (60 * f + i) (60 * f + (i + 1)))
    (m1 : mI ρ' 1282 26 = nI (r0 - 1)) (m2 : ∀ j, j < r → reE ρ ρ' j j) (m3 : ∀ j, r ≤ j → j + 1 < r0 → reE ρ ρ' j (j + 1)) : RelR (upN N f (N f - 1)) (r0 - 1) κ' ρ' := by
  have inj : ∀ g i s, g < 12 → i < N g → s < r0 → RowR κ ρ g i s → ((g = f ∧ i = q) ↔ s = r) := by
    rintro g i s hg hi hs ⟨v1, v2, -⟩
    constructor
    · rintro ⟨rfl, rfl⟩
      exact xR.2.2.2.2.2.2.1 s r hs hr (v1.trans hrow.1.symm) (v2.symm.trans hrow.2.1)
    · rintro rfl
      have eg : g = f := (eI (by omega) (by omega)).mp (v1.symm.trans hrow.1)
      subst eg
      exact ⟨rfl, xR.rowInj hg hi hq (v2.trans hrow.2.1.symm)⟩
  obtain ⟨x1, x2, x3, x4, x5, x6, x7, x8⟩ := id xR
  -- where an old row of the reference lies now
  have new : ∀ s, s < r0 → s ≠ r → ∃ s', s' < r0 - 1 ∧ reE ρ ρ' s' s := fun s hs hne => by
    by_cases h : s < r
    · exact ⟨s, by omega, m2 s h⟩
    · have := m3 (s - 1) (by omega) (by omega)
      rw [show s - 1 + 1 = s by omega] at this
      exact ⟨s - 1, by omega, this⟩
  have old : ∀ s', s' < r0 - 1 → ∃ s, s < r0 ∧ s ≠ r ∧ reE ρ ρ' s' s ∧ (s = if s' < r then s' else s' + 1) := fun s' hs => by
    by_cases h : s' < r
    · exact ⟨s', by omega, by omega, m2 s' h, by rw [if_pos h]⟩
    · exact ⟨s' + 1, by omega, by omega, m3 s' (by omega) (by omega), by rw [if_neg h]⟩
  refine ⟨fun g hg => ?_, m1, ?_, fun g hg i j hij hj => ?_, fun g hg i hi => ?_, fun s' hs' => ?_, fun s s' hs hs' e1 e2 => ?_, fun g hg => ?_⟩
  · by_cases e : g = f
    · subst e; rw [upN_is]; exact ⟨c1, by have := (x1 g hg).2; omega⟩
    · rw [upN_ne e, c2 g hg e]; exact x1 g hg
  · have := sum_up (N := N) hf (N f - 1)
    omega
  · by_cases e : g = f
    · subst e
      rw [upN_is] at hj
      have kv : ∀ i, i < N g - 1 → mI κ' 271 (60 * g + i) = mI κ 271 (60 * g + (if i < q then i else i + 1)) := fun i hi => by
        by_cases a : i < q
        · rw [if_pos a]; exact (c4 i a).1
        · rw [if_neg a]; exact (c5 i (by omega) (by omega)).1
      rw [kv i (by omega), kv j (by omega)]
      by_cases a : i < q
      · rw [if_pos a]
        by_cases b : j < q
        · rw [if_pos b]; exact x4 g hg i j hij (by omega)
        · rw [if_neg b]; exact x4 g hg i (j + 1) (by omega) (by omega)
      · rw [if_neg a, if_neg (show ¬ j < q by omega)]
        exact x4 g hg (i + 1) (j + 1) (by omega) (by omega)
    · rw [upN_ne e] at hj
      have h60 := (x1 g hg).2
      rw [(c3 g hg e i (by omega)).1, (c3 g hg e j (by omega)).1]
      exact x4 g hg i j hij hj
  · by_cases e : g = f
    · subst e
      rw [upN_is] at hi
      by_cases a : i < q
      · obtain ⟨s, s1, s2⟩ := x5 g hg i (by omega)
        obtain ⟨s', b1, b2⟩ := new s s1 (fun h => by have := ((inj g i s hg (by omega) s1 s2).mpr h).2; omega)
        exact ⟨s', b1, (c4 i a).row s2 b2⟩
      · obtain ⟨s, s1, s2⟩ := x5 g hg (i + 1) (by omega)
        obtain ⟨s', b1, b2⟩ := new s s1 (fun h => by have := ((inj g (i + 1) s hg (by omega) s1 s2).mpr h).2; omega)
        exact ⟨s', b1, (c5 i (by omega) (by omega)).row s2 b2⟩
    · rw [upN_ne e] at hi
      have h60 := (x1 g hg).2
      obtain ⟨s, s1, s2⟩ := x5 g hg i hi
      obtain ⟨s', b1, b2⟩ := new s s1 (fun h => e ((inj g i s hg hi s1 s2).mpr h).1)
      exact ⟨s', b1, (c3 g hg e i (by omega)).row s2 b2⟩
  · obtain ⟨s, s1, s2, s3, -⟩ := old s' hs'
    obtain ⟨g, hg, i, hi, s4⟩ := x6 s s1
    have h60 := (x1 g hg).2
    have hne : ¬ (g = f ∧ i = q) := fun h => s2 ((inj g i s hg hi s1 s4).mp h)
    by_cases e : g = f
    · subst e
      by_cases a : i < q
      · exact ⟨g, hg, i, by rw [upN_is]; omega, (c4 i a).row s4 s3⟩
      · have hi2 : i ≠ q := fun h => hne ⟨rfl, h⟩
        have := c5 (i - 1) (by omega) (by omega)
        rw [show i - 1 + 1 = i by omega] at this
        exact ⟨g, hg, i - 1, by rw [upN_is]; omega, this.row s4 s3⟩
    · exact ⟨g, hg, i, by rw [upN_ne e]; exact hi, (c3 g hg e i (by omega)).row s4 s3⟩
  · obtain ⟨t, t1, t2, t3, t4⟩ := old s hs
    obtain ⟨t', t1', t2', t3', t4'⟩ := old s' hs'
    rw [t3.1, t3'.1] at e1
    rw [t3.2.1, t3'.2.1] at e2
    have := x7 t t' t1 t1' e1 e2
    by_cases a : s < r
    · rw [if_pos a] at t4
      by_cases b : s' < r
      · rw [if_pos b] at t4'; omega
      · rw [if_neg b] at t4'; omega
    · rw [if_neg a] at t4
      by_cases b : s' < r
      · rw [if_pos b] at t4'; omega
      · rw [if_neg b] at t4'; omega
  · have := cnt_sh (g := fun j => mI ρ 1305 j) (g' := fun j => mI ρ' 1305 j) (x := nI g) (r := r) (fun j hj => (m2 j hj).1) (r0 - 1) (by omega) (fun j a b => (m3 j a (by omega)).1)
    rw [show r0 - 1 + 1 = r0 by omega, x8 g hg] at this
    have e5 : mI ρ 1305 r = nI f := hrow.1
    simp only [e5] at this
    by_cases e : g = f
    · subst e; rw [if_pos rfl] at this; rw [upN_is]; omega
    · rw [if_neg (fun h => e ((eI (by omega) (by omega)).mp h).symm)] at this
      rw [upN_ne e]; omega
theorem RowsW.del (hS : RelS sc n mc rt hc κ ρ) (hY : RowsW n r0 mc rt K ρ) {r : Nat} (hr : r < r0) (hsm : Eqv sM ρ ρ') {X : Int32} (e5 : mI ρ 1305 r = nI f) (e6 : mI ρ 1306 r = X) (hno : ∀ s, s < r0 → ¬ cdP mc rt ρ f X s) (uq : ∀ s, s < r0 → mI ρ 1305 s = nI f → mI ρ 1306 s = X → s = r) (hf : f < 12) (m2 : ∀ j, j < r → reE ρ ρ' j j) (m3 : ∀ j, r ≤ j → j + 1 < r0 → reE ρ ρ' j (j + 1)) : RowsW n (r0 - 1) mc rt K ρ' := by
  have h12 := hS.le
  have hi : ∀ c d, c < n → isa (par ρ') c d = isa (par ρ) c d := fun c d hc => isa_cg hS.par h12 (fun c hc => sM.cl hsm (by decide) (by decide) (by omega)) c hc
  have new : ∀ s, s < r0 → s ≠ r → ∃ s', s' < r0 - 1 ∧ reE ρ ρ' s' s := fun s hs hne => by
    by_cases h : s < r
    · exact ⟨s, by omega, m2 s h⟩
    · have := m3 (s - 1) (by omega) (by omega)
      rw [show s - 1 + 1 = s by omega] at this
      exact ⟨s - 1, by omega, this⟩
  have old : ∀ s', s' < r0 - 1 → ∃ s, s < r0 ∧ s ≠ r ∧ reE ρ ρ' s' s ∧ (s = if s' < r then s' else s' + 1) := fun s' hs => by
    by_cases h : s' < r
    · exact ⟨s', by omega, by omega, m2 s' h, by rw [if_pos h]⟩
    · exact ⟨s' + 1, by omega, by omega, m3 s' (by omega) (by omega), by rw [if_neg h]⟩
  intro s' hs'
  obtain ⟨s, s1, s2, ⟨b1, b2, b3, b4, b5⟩, s4⟩ := old s' hs'
  obtain ⟨g, c, x, y1, y2, y3, y4, y5, y6, y7, y8, y9, y10⟩ := hY s s1
  have h16 := hS.m16 y3
  refine ⟨g, c, x, y1, b1.trans y2, y3, b3.trans y4, y5, y6, y7, b2.trans y8, fun m a1 a2 => (b5 m a2).trans (y9 m a1 a2), fun m m1 => ?_⟩
  have w : ∀ a, 1289 ≤ a → a ≤ 1300 → mI ρ' a (16 * c + m) = mI ρ a (16 * c + m) := fun a y z => sM.me hsm y z (by omega) (by omega)
  obtain ⟨z1, z2, z3⟩ := y10 m m1
  refine ⟨?_, ?_, ?_⟩
  · rw [w _ (by decide) (by decide), w _ (by decide) (by decide), b5 m (by omega)]; exact z1
  · rw [w _ (by decide) (by decide), w _ (by decide) (by decide), b5 m (by omega)]
    intro a1 t' t1 t2 c' o c1 c2 c3 c4
    obtain ⟨t, d1, d2, ⟨d3, d4, d5, d6, d7⟩, d8⟩ := old t' t1
    rw [d5] at c2
    have hcn : c' < n := by
      obtain ⟨-, c'', -, -, -, q1, q2, -⟩ := hY t d1
      have := (eI (by omega) (by omega)).mp (c2.symm.trans q2)
      omega
    rw [hi c' o hcn] at c4
    rw [d7 m (by omega)]
    refine z2 a1 t d1 (fun e => t2 ?_) c' o c1 c2 c3 c4
    rw [e] at d8
    by_cases a : s' < r
    · rw [if_pos a] at s4
      by_cases b : t' < r
      · rw [if_pos b] at d8; omega
      · rw [if_neg b] at d8; omega
    · rw [if_neg a] at s4
      by_cases b : t' < r
      · rw [if_pos b] at d8; omega
      · rw [if_neg b] at d8; omega
  · rw [w _ (by decide) (by decide), w _ (by decide) (by decide), b5 m (by omega)]
    intro a1 a2 t t1 t2
    obtain ⟨s3, q1, q2, q3, c', q4, q5, q6⟩ := z3 a1 a2 t t1 t2
    have hne : s3 ≠ r := fun e => by
      rw [e] at q2 q3
      have ef : rt t = f := (eI (by
        have := hS.mw y3 m1
        obtain ⟨⟨kd, kd1, kd2, -, -, hto⟩, -⟩ := this
        have ekd : kd = 4 := (eI (b := 4) (by omega) (by decide)).mp (kd2.symm.trans a1)
        obtain ⟨t', v1, v2, -⟩ := hto (by omega)
        have ht : t' = t := (eI (by omega) (by omega)).mp (v2.symm.trans t2)
        rw [ht] at v1
        have := hS.rt12 v1
        omega) (by omega)).mp (q2.symm.trans e5)
      refine hno s s1 ⟨fun h => s2 (uq s s1 h.1 h.2), c, m, by omega, y4, m1, a1, ?_, t, t1, t2, ef⟩
      rw [← q3, e6]
    obtain ⟨s3', v1, v2, v3, v4, v5, v6⟩ := new s3 q1 hne
    have hcn : c' < n := by
      obtain ⟨-, c'', -, -, -, q1', q2', -⟩ := hY s3 q1
      have := (eI (by omega) (by omega)).mp (q5.symm.trans q2')
      omega
    exact ⟨s3', v1, v2.trans q2, v3.trans q3, c', q4, v4.trans q5, by rw [hi c' t hcn]; exact q6⟩
theorem c_remove (hL : LyC G) (hC : StC κ) (hR : RelR N r0 κ ρ) (hf : f < 12) (hq : q < N f) {Q : Mem → Prop} (k : Q (mg (sI (mvC κ (60 * f + q + 1) (60 * f + q) (N f - q - 1)) 270 f (nI (N f - 1))) ρ1)) : X_X5_remove G Q 13 (nI f) (nI (60 * f + q)) (mg κ ρ1) := by
  have h60 := (hR.1 f hf).2
  have hC' := hC.mv (60 * f + q + 1) (60 * f + q) (N f - q - 1)
  have e270 : mI (mvC κ (60 * f + q + 1) (60 * f + q) (N f - q - 1)) 270 f = nI (N f) := by rw [mvC_I (Or.inl (by decide))]; exact (hR.1 f hf).1
  simp (disch := omega) only [X_X5_remove, X_X5_remove_0, hL.1, true_and]
  refine c_endOf hL hC hR hf ?_
  rw [nI_1, pk_sub (by omega), s1I (by omega), show 60 * f + N f - (60 * f + q) - 1 = N f - q - 1 by omega]
  refine c_move hL hC (by omega) (by omega) ?_
  simp (disch := omega) only [mI_c, mR_c, sI_c, hL.1, hC'.1, lT, lF, tT, tF, eF, pF, zT, m1F, vT, cI, true_and, and_true, true_implies, false_implies, not_false_eq_true, not_true_eq_false, forall_eq, implies_true, e270, s1I]
  exact k
theorem m_goRow (hM : LyM G) (hm : StM ρ) (e26 : mI ρ 1282 26 = nI r0) (hr7 : r0 ≤ 720) {r : Nat} (hr : r < r0) :
    ∃ ρ', RunM0 (fun Q σ => X_X12_goRow G Q 1282 (nI r) σ) ρ ρ' ∧ StM ρ' ∧ Eqv (fun a j => ¬ (a = 1282 ∧ j = 26 ∨ 1305 ≤ a ∧ a ≤ 1309)) ρ ρ' ∧ mI ρ' 1282 26 = nI (r0 - 1) ∧ (∀ j, j < r → reE ρ ρ' j j) ∧ ∀ j, r ≤ j → j + 1 < r0 → reE ρ ρ' j (j + 1) := by
  have n16 : (16 : Int32) = nI 16 := rfl
  obtain ⟨⟨b1, ρ'⟩, ⟨hb, hm', fr', g1, g2⟩, run⟩ := Lw.run (ι := Mem × (Mem → Prop)) (fun z => X_X12_goRow_12_s G z.2 1282) (fun (b : Nat × Mem) z => (nI (r + b.1), mg z.1 b.2)) (r0 - 1 - r) (fun i b => b.1 = i ∧ StM b.2 ∧ Eqv (fun a _ => ¬ (1305 ≤ a ∧ a ≤ 1309)) (sI ρ 1282 26 (nI (r0 - 1))) b.2 ∧ (∀ a j, 1305 ≤ a → a ≤ 1308 → mI b.2 a j = if r ≤ j ∧ j < r + i then mI ρ a (j + 1) else mI ρ a j) ∧ ∀ j m, m < 16 → mI b.2 1309 (16 * j + m) = if r ≤ j ∧ j < r + i then mI ρ 1309 (16 * (j + 1) + m) else mI ρ 1309 (16 * j + m)) (by
    rintro i ⟨b1, ρb⟩ hi ⟨hb, hm, fr, g1, g2⟩
    have hb : b1 = i := hb
    subst hb
    have hm : StM ρb := hm
    have fr : Eqv _ (sI ρ 1282 26 (nI (r0 - 1))) ρb := fr
    have g1 : ∀ a j, 1305 ≤ a → a ≤ 1308 → mI ρb a j = _ := g1
    have g2 : ∀ j m, m < 16 → mI ρb 1309 (16 * j + m) = _ := g2
    have e : mI ρb 1282 26 = nI (r0 - 1) := by rw [fr.I (by omega)]; exact I_is _ _ _ _
    have nx : ∀ a, 1305 ≤ a → a ≤ 1308 → mI ρb a (r + b1 + 1) = mI ρ a (r + b1 + 1) := fun a h1 h2 => by rw [g1 a _ h1 h2, if_neg (by omega)]
    have nv : ∀ m, m < 16 → mI ρb 1309 (16 * (r + b1) + 16 + m) = mI ρ 1309 (16 * (r + b1) + 16 + m) := fun m hm => by
      have := g2 (r + b1 + 1) m hm
      rw [if_neg (by omega)] at this
      rw [show 16 * (r + b1) + 16 + m = 16 * (r + b1 + 1) + m by omega]; exact this
    obtain ⟨ρc, ec⟩ : ∃ y, y = sI (sI (sI (sI ρb 1305 (r + b1) (mI ρ 1305 (r + b1 + 1))) 1306 (r + b1) (mI ρ 1306 (r + b1 + 1))) 1307 (r + b1) (mI ρ 1307 (r + b1 + 1))) 1308 (r + b1) (mI ρ 1308 (r + b1 + 1)) := ⟨_, rfl⟩
    have hmc : StM ρc := by rw [ec]; exact (((hm.wI _ _ _).wI _ _ _).wI _ _ _).wI _ _ _
    have c9 : ∀ j, mI ρc 1309 j = mI ρb 1309 j := fun j => by rw [ec]; simp (disch := omega) only [I_cl]
    refine ⟨(b1 + 1, sF ρc 1309 (16 * (r + b1)) (16 * (r + b1) + 16) (fun z => mI ρ 1309 (z + 16))), ⟨rfl, hmc.wF _ _ _ _, ?_, fun a j h1 h2 => ?_, fun j m hm => ?_⟩, fun z K hK => ?_⟩
    · rw [ec]
      exact ((((fr.sI (by omega) _).sI (by omega) _).sI (by omega) _).sI (by omega) _).sF (fun k _ _ h => by omega)
    · show mI (sF ρc 1309 _ _ _) a j = _
      rw [sF_cl (by omega), ec]
      by_cases ej : j = r + b1
      · subst ej
        rw [if_pos (by omega)]
        have : a = 1305 ∨ a = 1306 ∨ a = 1307 ∨ a = 1308 := by omega
        rcases this with rfl | rfl | rfl | rfl <;> simp (disch := omega) only [I_is, I_cl]
      · rw [I_sl ej, I_sl ej, I_sl ej, I_sl ej, g1 a j h1 h2]
        by_cases c : r ≤ j ∧ j < r + b1
        · rw [if_pos c, if_pos (by omega)]
        · rw [if_neg c, if_neg (by omega)]
    · show mI (sF ρc 1309 _ _ _) 1309 (16 * j + m) = _
      by_cases ej : j = r + b1
      · subst ej
        rw [sF_in (by omega) (by omega), if_pos (by omega)]
        show mI ρ 1309 (16 * (r + b1) + m + 16) = _
        congr 1; omega
      · rw [sF_out (by omega), c9, g2 j m hm]
        by_cases c : r ≤ j ∧ j < r + b1
        · rw [if_pos c, if_pos (by omega)]
        · rw [if_neg c, if_neg (by omega)]
    · show X_X12_goRow_12_s G z.2 1282 K (nI (r + b1), mg z.1 ρb)
      simp (disch := omega) only [X_X12_goRow_12_s, mI_m, mR_m, mJ_m, sI_m, sJ_m, hM.1, hM.2, hm.1, hm.2, lT, lF, tT, tF, eF, pF, zT, m1F, vT, cI, true_and, and_true, true_implies, false_implies, not_false_eq_true, not_true_eq_false, forall_eq, implies_true, e, I_cl, mR_sI, nx, nI_1]
      rw [← ec]
      unfold X_X12_goRow_78
      refine Lw.nat 16 (fun m x => x = (nI m, mg z.1 (sF ρc 1309 (16 * (r + b1)) (16 * (r + b1) + m) (fun z => mI ρ 1309 (z + 16))))) ?_ 0 (by omega) _ (by rw [Nat.add_zero, sF_0]; rfl)
      rintro K' m x hm2 rfl hk'
      have hmi : StM (sF ρc 1309 (16 * (r + b1)) (16 * (r + b1) + m) (fun z => mI ρ 1309 (z + 16))) := hmc.wF _ _ _ _
      by_cases hlt : m < 16
      · simp (disch := omega) only [X_X12_goRow_78_s, n16, pk_mul, nI_add, mI_m, mR_m, sI_m, hM.1, hM.2, hmi.1, hmi.2, lT, lF, tT, tF, eF, pF, zT, m1F, vT, cI, true_and, and_true, true_implies, false_implies, not_false_eq_true, not_true_eq_false, forall_eq, implies_true, sF_out, c9, nv, nI_1]
        refine hk' _ hlt ?_
        rw [sF_st (by omega) (by show _ = mI ρ 1309 (16 * (r + b1) + m + 16); congr 1; omega)]; rfl
      · obtain rfl : m = 16 := by omega
        refine brT (by decide) ?_
        rw [nI_1]
        exact hK) 0 (Nat.zero_le _) (0, sI ρ 1282 26 (nI (r0 - 1))) ⟨rfl, hm.wI _ _ _, Eqv.rf, fun a j h1 h2 => by rw [if_neg (by omega)]; exact I_cl (by omega), fun j m hm => by rw [if_neg (by omega)]; exact I_cl (by decide)⟩
  have hb : b1 = r0 - 1 - r := hb
  subst hb
  have hm' : StM ρ' := hm'
  have fr' : Eqv _ (sI ρ 1282 26 (nI (r0 - 1))) ρ' := fr'
  have g1 : ∀ a j, 1305 ≤ a → a ≤ 1308 → mI ρ' a j = _ := g1
  have g2 : ∀ j m, m < 16 → mI ρ' 1309 (16 * j + m) = _ := g2
  have e' : mI ρ' 1282 26 = nI (r0 - 1) := by rw [fr'.I (by omega)]; exact I_is _ _ _ _
  refine ⟨ρ', fun κ1 Q hQ => ?_, hm', (Eqv.wI (by omega) _).tr (fr'.mo fun a j h => by omega), e', fun j hj => ?_, fun j h1 h2 => ?_⟩
  · have rr := run (κ1, Q) (fun K => by
      show X_X12_goRow_12_s G Q 1282 K (nI (r + (r0 - 1 - r)), mg κ1 ρ')
      simp (disch := omega) only [X_X12_goRow_12_s, mI_m, hM.1, lT, lF, tT, tF, eF, pF, zT, m1F, vT, cI, true_and, and_true, true_implies, false_implies, not_false_eq_true, not_true_eq_false, forall_eq, implies_true, e']
      exact hQ)
    show X_X12_goRow G Q 1282 (nI r) (mg κ1 ρ)
    simp (disch := omega) only [X_X12_goRow, X_X12_goRow_0, X_X12_goRow_12, mI_m, sI_m, hM.1, true_and, forall_eq, e26, s1I]
    exact rr
  · refine ⟨?_, ?_, ?_, ?_, fun m hm => ?_⟩
    iterate 4 (rw [g1 _ _ (by decide) (by decide), if_neg (by omega)])
    rw [g2 j m hm, if_neg (by omega)]
  · refine ⟨?_, ?_, ?_, ?_, fun m hm => ?_⟩
    iterate 4 (rw [g1 _ _ (by decide) (by decide), if_pos (by omega)])
    rw [g2 j m hm, if_pos (by omega)]
end REMOVE
