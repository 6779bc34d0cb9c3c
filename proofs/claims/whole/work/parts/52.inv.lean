/-! words: the class keeps eight bits a sign, the reference six -/
def ltr (c : Nat) : Nat := if 97 ≤ c ∧ c ≤ 122 then c - 96 else if 65 ≤ c ∧ c ≤ 90 then c - 64 + 26 else if 48 ≤ c ∧ c ≤ 57 then c - 47 + 52 else 0
def e8 (w : List Nat) : Nat := w.foldl (fun a b => 256 * a + b) 0
def e6 (w : List Nat) : Nat := w.foldl (fun a b => 64 * a + ltr b) 0
def WdR (x y : Int64) : Prop := ∃ w : List Nat, 1 ≤ w.length ∧ w.length ≤ 8 ∧ (∀ b ∈ w, 0 < ltr b) ∧ x = lN (e8 w) ∧ y = lN (e6 w)
def RelN (sc n : Nat) (mc : Nat → Nat) (κ ρ : Mem) : Prop := (∀ c, c < n → WdR (mJ κ (sc + 4 + 5 * c) 0) (mJ ρ 1284 c)) ∧
  ∀ c, c < n → ∀ m, m < mc c → WdR (mJ κ (mR κ (sc + 5 + 5 * c) m) 0) (mJ ρ 1289 (16 * c + m)) ∧ (mI ρ 1290 (16 * c + m) = 3 → ∃ w a b, mI ρ 1293 (16 * c + m) = nI w ∧ mI κ (mR κ (sc + 5 + 5 * c) m) 4 = nI a ∧ mI ρ 1292 (16 * c + m) = nI b ∧ a + w ≤ 1500 ∧ b + w ≤ 1600 ∧ (∀ i, i < w → WdR (mJ κ (sc + 3) (a + i)) (mJ ρ 1304 (b + i))) ∧ (∀ i j, i < w → j < w → mJ ρ 1304 (b + i) = mJ ρ 1304 (b + j) → i = j))
/-! the rules hold of every row -/
def RuleW (r0 : Nat) (rt : Nat → Nat) (ρ : Mem) (r c m : Nat) : Prop :=
  (mI ρ 1290 (16 * c + m) = 4 → mI ρ 1294 (16 * c + m) &&& 2 ≠ 0 → mI ρ 1309 (16 * r + m) ≠ 0) ∧
  (mI ρ 1294 (16 * c + m) &&& 1 ≠ 0 → ∀ r', r' < r0 → r' ≠ r → ∀ c' o, c' < 12 → mI ρ 1307 r' = nI c' → mI ρ 1296 (16 * c + m) = nI o → isa (par ρ) c' o = true → mI ρ 1309 (16 * r' + m) ≠ mI ρ 1309 (16 * r + m)) ∧
  (mI ρ 1290 (16 * c + m) = 4 → mI ρ 1309 (16 * r + m) ≠ 0 → ∀ t, t < 12 → mI ρ 1291 (16 * c + m) = nI t → ∃ r', r' < r0 ∧ mI ρ 1305 r' = nI (rt t) ∧ mI ρ 1306 r' = mI ρ 1309 (16 * r + m) ∧ ∃ c', c' < 12 ∧ mI ρ 1307 r' = nI c' ∧ isa (par ρ) c' t = true)
def RowW (n r0 : Nat) (mc rt K : Nat → Nat) (ρ : Mem) (r : Nat) : Prop := ∃ f c x, f < 12 ∧ mI ρ 1305 r = nI f ∧ c < n ∧ mI ρ 1307 r = nI c ∧ rt c = f ∧ 1 ≤ x ∧ x ≤ K f ∧ mI ρ 1306 r = nI x ∧ (∀ m, mc c ≤ m → m < 16 → mI ρ 1309 (16 * r + m) = 0) ∧ ∀ m, m < mc c → RuleW r0 rt ρ r c m
def RowsW (n r0 : Nat) (mc rt K : Nat → Nat) (ρ : Mem) : Prop := ∀ r, r < r0 → RowW n r0 mc rt K ρ r
/-! objects: what a live one is -/
def LivW (n : Nat) (mc rt K : Nat → Nat) (ρ : Mem) (p f : Nat) : Prop := ∃ c, c < n ∧ mI ρ 1322 p = nI c ∧ rt c = f ∧ (∀ m, mc c ≤ m → m < 16 → mI ρ 1324 (16 * p + m) = 0 ∧ mI ρ 1325 (16 * p + m) = 0) ∧ ∀ m, m < mc c → mI ρ 1290 (16 * c + m) = 4 → mI ρ 1324 (16 * p + m) = 0 ∨ ∃ x t, t < n ∧ mI ρ 1291 (16 * c + m) = nI t ∧ 1 ≤ x ∧ x ≤ K (rt t) ∧ mI ρ 1324 (16 * p + m) = nI x
def ThW (n r0 : Nat) (mc rt K : Nat → Nat) (ρ : Mem) (p : Nat) : Prop := ∃ s f x, s ≤ 4 ∧ mI ρ 1319 p = nI s ∧ f < 12 ∧ mI ρ 1320 p = nI f ∧ 1 ≤ x ∧ x ≤ K f ∧ mI ρ 1321 p = nI x ∧ (mI ρ 1322 p = -1 ∨ ∃ c, c < n ∧ mI ρ 1322 p = nI c) ∧ (1 ≤ s → s ≤ 3 → LivW n mc rt K ρ p f) ∧ (s = 2 → mI ρ 1323 p = 0 ∧ ∀ r, r < r0 → ¬ (mI ρ 1305 r = nI f ∧ mI ρ 1306 r = nI x))
/-- the class that belongs to a key: of rows and of live objects -/
def ClsC (r0 : Nat) (us : Nat → Nat) (ρ : Mem) (C : Int32 → Int32 → Int32) : Prop := (∀ r, r < r0 → mI ρ 1307 r = C (mI ρ 1305 r) (mI ρ 1306 r)) ∧ ∀ u, u < 4 → mI ρ 1316 u = 1 → ∀ k, k < us u → (mI ρ 1319 (60 * u + k) = 1 ∨ mI ρ 1319 (60 * u + k) = 2) → mI ρ 1322 (60 * u + k) = C (mI ρ 1320 (60 * u + k)) (mI ρ 1321 (60 * u + k))
def ClsW (r0 : Nat) (us : Nat → Nat) (ρ : Mem) : Prop := ∃ C, ClsC r0 us ρ C
def ThsW (n r0 : Nat) (mc rt K us : Nat → Nat) (ρ : Mem) : Prop :=
  (∀ u, u < 4 → mI ρ 1316 u = 1 → ∀ k, k < us u → ThW n r0 mc rt K ρ (60 * u + k)) ∧
  (∀ u, u < 4 → mI ρ 1316 u = 1 → ∀ k k', k < us u → k' < us u → mI ρ 1320 (60 * u + k) = mI ρ 1320 (60 * u + k') → mI ρ 1321 (60 * u + k) = mI ρ 1321 (60 * u + k') → k = k') ∧
  (∀ u u', u < 4 → u' < 4 → mI ρ 1316 u = 1 → mI ρ 1316 u' = 1 → ∀ k k', k < us u → k' < us u' → mI ρ 1319 (60 * u + k) = 2 → mI ρ 1319 (60 * u' + k') = 2 → mI ρ 1320 (60 * u + k) = mI ρ 1320 (60 * u' + k') → mI ρ 1321 (60 * u + k) = mI ρ 1321 (60 * u' + k') → u = u') ∧
  ClsW r0 us ρ
/-- all -/
def RelA (nn sc n : Nat) (mc rt hc K N : Nat → Nat) (r0 : Nat) (us : Nat → Nat) (κ ρ : Mem) : Prop :=
  (StC κ ∧ StM ρ ∧ NumC κ) ∧ RelT κ ρ ∧ RelF κ ρ ∧ RelS sc n mc rt hc κ ρ ∧ RelN sc n mc κ ρ ∧ RelK K nn κ ρ ∧ RelR N r0 κ ρ ∧ RelU us κ ρ ∧ RelW κ ρ ∧ RelD κ ρ ∧ RowsW n r0 mc rt K ρ ∧ ThsW n r0 mc rt K us ρ
def Rel (nn : Nat) (κ ρ : Mem) : Prop := ∃ sc n mc rt hc K N r0 us, RelA nn sc n mc rt hc K N r0 us κ ρ
section FR
variable {nn sc n r0 : Nat} {mc rt hc K N us : Nat → Nat} {κ κ' ρ ρ' : Mem}
theorem RelN.fr (h : RelN sc n mc κ ρ) (hS : RelS sc n mc rt hc κ ρ) (hcc : Eqv (sCc sc) κ κ') (hm : Eqv sM ρ ρ') : RelN sc n mc κ' ρ' := by
  have h12 := hS.2.2.2.2.2.1
  have hq := hS.2.2.2.2.2.2.2.2.1
  have hmc : ∀ c, c < n → mc c ≤ 16 := fun c hc => (hS.2.2.2.2.2.2.1 c hc).2.2.2.2.2.1
  have c : ∀ a k, sc ≤ a → a < sc + 256 → mI κ' a k = mI κ a k ∧ mJ κ' a k = mJ κ a k ∧ mR κ' a k = mR κ a k := fun a k x y => hcc a k (Or.inr (Or.inr ⟨x, y⟩))
  refine ⟨fun q hq2 => ?_, fun q hq2 m hm2 => ?_⟩
  · rw [(c _ _ (by omega) (by omega)).2.1, hm.J (Or.inr (Or.inl ⟨by decide, by decide, by omega⟩))]
    exact h.1 q hq2
  · have x := hq q hq2 m hm2
    have h16 := hmc q hq2
    have y := h.2 q hq2 m hm2
    rw [(c _ _ (by omega) (by omega)).2.2, (c _ _ (by have := x.1; omega) (by have := x.1; omega)).2.1, (c _ _ (by have := x.1; omega) (by have := x.1; omega)).1, hm.J (Or.inr (Or.inr (Or.inl ⟨by decide, by decide, by omega⟩))), sM.me hm (by decide) (by decide) (by omega) (by omega), sM.me hm (by decide) (by decide) (by omega) (by omega), sM.me hm (by decide) (by decide) (by omega) (by omega)]
    refine ⟨y.1, fun e3 => ?_⟩
    obtain ⟨w, a, b, z1, z2, z3, z4, z5, z6, z7⟩ := y.2 e3
    refine ⟨w, a, b, z1, z2, z3, z4, z5, fun i hi => ?_, fun i j hi hj => ?_⟩
    · rw [(c _ _ (by omega) (by omega)).2.1, hm.J (Or.inr (Or.inr (Or.inr (Or.inr ⟨rfl, by omega⟩))))]
      exact z6 i hi
    · rw [hm.J (Or.inr (Or.inr (Or.inr (Or.inr ⟨rfl, by omega⟩)))), hm.J (Or.inr (Or.inr (Or.inr (Or.inr ⟨rfl, by omega⟩))))]
      exact z7 i j hi hj
theorem RowsW.fr (h : RowsW n r0 mc rt K ρ) (hS : RelS sc n mc rt hc κ ρ) (hr : Eqv rM ρ ρ') (hm : Eqv sM ρ ρ') : RowsW n r0 mc rt K ρ' := by
  have h12 := hS.2.2.2.2.2.1
  have hp := hS.par
  have hmc : ∀ c, c < n → mc c ≤ 16 := fun c hc => (hS.2.2.2.2.2.2.1 c hc).2.2.2.2.2.1
  have m : ∀ a k, 1305 ≤ a → a ≤ 1309 → mI ρ' a k = mI ρ a k := fun a k x y => hr.I (Or.inr ⟨x, y⟩)
  have hi : ∀ c d, c < n → isa (par ρ') c d = isa (par ρ) c d := fun c d hc => isa_cg hp h12 (fun c hc => sM.cl hm (by decide) (by decide) (by omega)) c hc
  have hcl : ∀ r c, r < r0 → mI ρ 1307 r = nI c → c < 12 → c < n := fun r c hr2 e h2 => by
    obtain ⟨f, d, x, -, -, y1, y2, -⟩ := h r hr2
    rw [e] at y2
    have := (eI (by omega) (by omega)).mp y2
    omega
  intro r hr2
  obtain ⟨f, c, x, x1, x2, x3, x4, x5, x6, x7, x8, x9, x10⟩ := h r hr2
  have h16 := hmc c x3
  refine ⟨f, c, x, x1, ?_, x3, ?_, x5, x6, x7, ?_, fun q q1 q2 => ?_, fun q q1 => ?_⟩
  · rw [m _ _ (by decide) (by decide)]; exact x2
  · rw [m _ _ (by decide) (by decide)]; exact x4
  · rw [m _ _ (by decide) (by decide)]; exact x8
  · rw [m _ _ (by decide) (by decide)]; exact x9 q q1 q2
  · have w : ∀ a, 1289 ≤ a → a ≤ 1300 → mI ρ' a (16 * c + q) = mI ρ a (16 * c + q) := fun a y z => sM.me hm y z (by omega) (by omega)
    obtain ⟨y1, y2, y3⟩ := x10 q q1
    refine ⟨?_, ?_, ?_⟩
    · rw [w _ (by decide) (by decide), w _ (by decide) (by decide), m _ _ (by decide) (by decide)]; exact y1
    · rw [w _ (by decide) (by decide), w _ (by decide) (by decide), m 1309 (16 * r + q) (by decide) (by decide)]
      intro z r' z1 z2 c' o z3 z4 z5 z6
      rw [m _ _ (by decide) (by decide)] at z4 ⊢
      have hcn := hcl r' c' z1 z4 z3
      rw [hi c' o hcn] at z6
      exact y2 z r' z1 z2 c' o z3 z4 z5 z6
    · rw [w _ (by decide) (by decide), w _ (by decide) (by decide), m 1309 (16 * r + q) (by decide) (by decide)]
      intro z z2 t z3 z4
      obtain ⟨r', v1, v2, v3, c', v4, v5, v6⟩ := y3 z z2 t z3 z4
      refine ⟨r', v1, ?_, ?_, c', v4, ?_, ?_⟩
      · rw [m _ _ (by decide) (by decide)]; exact v2
      · rw [m _ _ (by decide) (by decide)]; exact v3
      · rw [m _ _ (by decide) (by decide)]; exact v5
      · rw [hi c' t (hcl r' c' v1 v5 v4)]; exact v6
theorem ClsW.fr (h : ClsW r0 us ρ) (hr : Eqv rM ρ ρ') (hu : Eqv uM ρ ρ') : ClsW r0 us ρ' := by
  have m : ∀ a k, 1305 ≤ a → a ≤ 1309 → mI ρ' a k = mI ρ a k := fun a k x y => hr.I (Or.inr ⟨x, y⟩)
  have w : ∀ a k, 1316 ≤ a → a ≤ 1325 → mI ρ' a k = mI ρ a k := fun a k x y => hu.I ⟨x, y⟩
  obtain ⟨C, h1, h2⟩ := h
  refine ⟨C, fun r hr => ?_, fun u u1 u2 k u3 u4 => ?_⟩
  · rw [m _ _ (by decide) (by decide), m _ _ (by decide) (by decide), m _ _ (by decide) (by decide)]; exact h1 r hr
  · rw [w _ _ (by decide) (by decide)] at u2 u4
    rw [w _ _ (by decide) (by decide), w _ _ (by decide) (by decide), w _ _ (by decide) (by decide)]; exact h2 u u1 u2 k u3 u4
theorem ThsW.fr (h : ThsW n r0 mc rt K us ρ) (hS : RelS sc n mc rt hc κ ρ) (hr : Eqv rM ρ ρ') (hm : Eqv sM ρ ρ') (hu : Eqv uM ρ ρ') : ThsW n r0 mc rt K us ρ' := by
  have h12 := hS.2.2.2.2.2.1
  have hmc : ∀ c, c < n → mc c ≤ 16 := fun c hc => (hS.2.2.2.2.2.2.1 c hc).2.2.2.2.2.1
  have m : ∀ a k, 1305 ≤ a → a ≤ 1309 → mI ρ' a k = mI ρ a k := fun a k x y => hr.I (Or.inr ⟨x, y⟩)
  have w : ∀ a k, 1316 ≤ a → a ≤ 1325 → mI ρ' a k = mI ρ a k := fun a k x y => hu.I ⟨x, y⟩
  obtain ⟨h1, h2, h3, h4⟩ := h
  refine ⟨fun u u1 u2 k u3 => ?_, fun u u1 u2 k k' => ?_, fun u u' u1 u2 u3 u4 k k' => ?_, h4.fr hr hu⟩
  · rw [w _ _ (by decide) (by decide)] at u2
    obtain ⟨s, f, x, x1, x2, x3, x4, x5, x6, x7, x8, x9, x10⟩ := h1 u u1 u2 k u3
    refine ⟨s, f, x, x1, ?_, x3, ?_, x5, x6, ?_, ?_, fun y1 y2 => ?_, fun y1 => ?_⟩
    · rw [w _ _ (by decide) (by decide)]; exact x2
    · rw [w _ _ (by decide) (by decide)]; exact x4
    · rw [w _ _ (by decide) (by decide)]; exact x7
    · rw [w _ _ (by decide) (by decide)]; exact x8
    · obtain ⟨c, z1, z2, z3, z4, z5⟩ := x9 y1 y2
      have := hmc c z1
      refine ⟨c, z1, ?_, z3, fun q q1 q2 => ?_, fun q q1 => ?_⟩
      · rw [w _ _ (by decide) (by decide)]; exact z2
      · rw [w _ _ (by decide) (by decide), w _ _ (by decide) (by decide)]; exact z4 q q1 q2
      · rw [w 1324 _ (by decide) (by decide), sM.me (a := 1290) hm (by decide) (by decide) (by omega) (by omega), sM.me (a := 1291) hm (by decide) (by decide) (by omega) (by omega)]; exact z5 q q1
    · rw [w _ _ (by decide) (by decide)]
      refine ⟨(x10 y1).1, fun r hr2 => ?_⟩
      rw [m _ _ (by decide) (by decide), m _ _ (by decide) (by decide)]
      exact (x10 y1).2 r hr2
  · rw [w _ _ (by decide) (by decide)] at u2
    rw [w _ _ (by decide) (by decide), w _ _ (by decide) (by decide), w _ _ (by decide) (by decide), w _ _ (by decide) (by decide)]
    exact h2 u u1 u2 k k'
  · rw [w _ _ (by decide) (by decide)] at u3 u4
    simp only [w 1319 _ (by decide) (by decide), w 1320 _ (by decide) (by decide), w 1321 _ (by decide) (by decide)]
    exact h3 u u' u1 u2 u3 u4 k k'
/-- what all parts stand on -/
def aC (sc a k : Nat) : Prop := tC a k ∨ fC a k ∨ sCc sc a k ∨ kC a k ∨ rC a k ∨ uC a k ∨ wC a k ∨ dC a k ∨ nC a k
def aM (a k : Nat) : Prop := tM a k ∨ fM a k ∨ sM a k ∨ kM a k ∨ rM a k ∨ uM a k ∨ wM a k ∨ dM a k
theorem RelK.up (h : RelK K nn κ ρ) {nn' : Nat} (hn : nn ≤ nn') : RelK K nn' κ ρ := fun f hf => ⟨(h f hf).1, (h f hf).2.1, by have := (h f hf).2.2; omega⟩
theorem RelA.fr (h : RelA nn sc n mc rt hc K N r0 us κ ρ) (h1 : StC κ') (h2 : StM ρ') (hcc : Eqv (aC sc) κ κ') (hm : Eqv aM ρ ρ') {nn' : Nat} (hn : nn ≤ nn') : RelA nn' sc n mc rt hc K N r0 us κ' ρ' := by
  obtain ⟨⟨x1, x2, x3⟩, xT, xF, xS, xN, xK, xR, xU, xW, xD, yR, yT⟩ := h
  refine ⟨⟨h1, h2, x3.fr (hcc.mo fun a k z => ?_)⟩, xT.fr (hcc.mo fun a k z => ?_) (hm.mo fun a k z => ?_), xF.fr (hcc.mo fun a k z => ?_) (hm.mo fun a k z => ?_), xS.fr (hcc.mo fun a k z => ?_) (hm.mo fun a k z => ?_), xN.fr xS (hcc.mo fun a k z => ?_) (hm.mo fun a k z => ?_), (xK.up hn).fr (hcc.mo fun a k z => ?_) (hm.mo fun a k z => ?_), xR.fr (hcc.mo fun a k z => ?_) (hm.mo fun a k z => ?_), xU.fr (hcc.mo fun a k z => ?_) (hm.mo fun a k z => ?_), xW.fr (hcc.mo fun a k z => ?_) (hm.mo fun a k z => ?_), xD.fr (hcc.mo fun a k z => ?_) (hm.mo fun a k z => ?_), yR.fr xS (hm.mo fun a k z => ?_) (hm.mo fun a k z => ?_), yT.fr xS (hm.mo fun a k z => ?_) (hm.mo fun a k z => ?_) (hm.mo fun a k z => ?_)⟩
  all_goals (first | exact Or.inl z | exact Or.inr (Or.inl z) | exact Or.inr (Or.inr (Or.inl z)) | exact Or.inr (Or.inr (Or.inr (Or.inl z))) | exact Or.inr (Or.inr (Or.inr (Or.inr (Or.inl z)))) | exact Or.inr (Or.inr (Or.inr (Or.inr (Or.inr (Or.inl z))))) | exact Or.inr (Or.inr (Or.inr (Or.inr (Or.inr (Or.inr (Or.inl z)))))) | exact Or.inr (Or.inr (Or.inr (Or.inr (Or.inr (Or.inr (Or.inr z)))))) | exact Or.inr (Or.inr (Or.inr (Or.inr (Or.inr (Or.inr (Or.inr (Or.inl z))))))) | exact Or.inr (Or.inr (Or.inr (Or.inr (Or.inr (Or.inr (Or.inr (Or.inr z))))))))
end FR
