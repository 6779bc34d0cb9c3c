/-! one unit, one object at a time -/
def thC (u k a j : Nat) : Prop := a = 537 + 184 * u + 3 * k ∧ 1 ≤ j ∧ j ≤ 5 ∨ a = 538 + 184 * u + 3 * k ∨ a = 539 + 184 * u + 3 * k
def thM (p a j : Nat) : Prop := 1319 ≤ a ∧ a ≤ 1323 ∧ j = p ∨ 1324 ≤ a ∧ a ≤ 1325 ∧ 16 * p ≤ j ∧ j < 16 * p + 16
def uC1 (u a k : Nat) : Prop := a = 533 + 184 * u ∧ (k = 4 ∨ k = 5 ∨ k = 6) ∨ ∃ j, j < 60 ∧ (a = 537 + 184 * u + 3 * j ∧ 1 ≤ k ∧ k ≤ 5 ∨ a = 538 + 184 * u + 3 * j ∨ a = 539 + 184 * u + 3 * j)
def uM1 (u a k : Nat) : Prop := 1316 ≤ a ∧ a ≤ 1318 ∧ k = u ∨ 1319 ≤ a ∧ a ≤ 1323 ∧ 60 * u ≤ k ∧ k < 60 * u + 60 ∨ 1324 ≤ a ∧ a ≤ 1325 ∧ 960 * u ≤ k ∧ k < 960 * u + 960
def RelU1 (us : Nat → Nat) (κ ρ : Mem) (u : Nat) : Prop := mI κ (533 + 184 * u) 4 = mI ρ 1316 u ∧ (mI ρ 1316 u = 0 ∨ mI ρ 1316 u = 1 ∧ UnR us κ ρ u)
def ThU (n r0 : Nat) (mc rt K us : Nat → Nat) (ρ : Mem) (u : Nat) : Prop := mI ρ 1316 u = 1 → (∀ k, k < us u → ThW n r0 mc rt K ρ (60 * u + k)) ∧ ∀ k k', k < us u → k' < us u → mI ρ 1320 (60 * u + k) = mI ρ 1320 (60 * u + k') → mI ρ 1321 (60 * u + k) = mI ρ 1321 (60 * u + k') → k = k'
/-- a NEW one of unit u has this family and key -/
def newK (us : Nat → Nat) (ρ : Mem) (u : Nat) (f x : Int32) : Prop := ∃ k, k < us u ∧ mI ρ 1319 (60 * u + k) = 2 ∧ mI ρ 1320 (60 * u + k) = f ∧ mI ρ 1321 (60 * u + k) = x
section UN
variable {nn sc n r0 : Nat} {mc rt hc K K' N us us' : Nat → Nat} {κ κ' ρ ρ' : Mem} {u k p : Nat}
theorem ThR.f1 (h : ThR u k κ ρ) (hc : Eqv (thC u k) κ κ') (hm : Eqv (thM (60 * u + k)) ρ ρ') : ThR u k κ' ρ' := by
  obtain ⟨h1, h2, h3, h4, h5, h6⟩ := h
  have c : ∀ j, 1 ≤ j → j ≤ 5 → mI κ' (537 + 184 * u + 3 * k) j = mI κ (537 + 184 * u + 3 * k) j := fun j x y => hc.I (Or.inl ⟨rfl, x, y⟩)
  have m : ∀ a, 1319 ≤ a → a ≤ 1323 → mI ρ' a (60 * u + k) = mI ρ a (60 * u + k) := fun a x y => hm.I (Or.inl ⟨x, y, rfl⟩)
  refine ⟨?_, ?_, ?_, ?_, ?_, fun j hj => ⟨?_, ?_⟩⟩
  · rw [m _ (by decide) (by decide), c _ (by decide) (by decide)]; exact h1
  · rw [m _ (by decide) (by decide), c _ (by decide) (by decide)]; exact h2
  · rw [m _ (by decide) (by decide), c _ (by decide) (by decide)]; exact h3
  · rw [m _ (by decide) (by decide), c _ (by decide) (by decide)]; exact h4
  · rw [m _ (by decide) (by decide), c _ (by decide) (by decide)]; exact h5
  · rw [hm.I (Or.inr ⟨by decide, by decide, by omega, by omega⟩), hc.I (Or.inr (Or.inl rfl))]; exact (h6 j hj).1
  · rw [hm.I (Or.inr ⟨by decide, by decide, by omega, by omega⟩), hc.I (Or.inr (Or.inr rfl))]; exact (h6 j hj).2
theorem ThW.f1 (h : ThW n r0 mc rt K ρ p) (hS : RelS sc n mc rt hc κ ρ) (hr : Eqv rM ρ ρ') (hm : Eqv sM ρ ρ') (hu : Eqv (thM p) ρ ρ') (hK : ∀ f, K f ≤ K' f) : ThW n r0 mc rt K' ρ' p := by
  have h12 := hS.le
  have m : ∀ a k, 1305 ≤ a → a ≤ 1309 → mI ρ' a k = mI ρ a k := fun a k x y => hr.I (Or.inr ⟨x, y⟩)
  have w : ∀ a, 1319 ≤ a → a ≤ 1323 → mI ρ' a p = mI ρ a p := fun a x y => hu.I (Or.inl ⟨x, y, rfl⟩)
  obtain ⟨s, f, x, x1, x2, x3, x4, x5, x6, x7, x8, x9, x10⟩ := h
  have hKf := hK f
  refine ⟨s, f, x, x1, ?_, x3, ?_, x5, by omega, ?_, ?_, fun y1 y2 => ?_, fun y1 => ?_⟩
  · rw [w _ (by decide) (by decide)]; exact x2
  · rw [w _ (by decide) (by decide)]; exact x4
  · rw [w _ (by decide) (by decide)]; exact x7
  · rw [w _ (by decide) (by decide)]; exact x8
  · obtain ⟨c, z1, z2, z3, z4, z5⟩ := x9 y1 y2
    have := hS.m16 z1
    refine ⟨c, z1, ?_, z3, fun q q1 q2 => ?_, fun q q1 => ?_⟩
    · rw [w _ (by decide) (by decide)]; exact z2
    · rw [hu.I (Or.inr ⟨by decide, by decide, by omega, by omega⟩), hu.I (Or.inr ⟨by decide, by decide, by omega, by omega⟩)]; exact z4 q q1 q2
    · rw [hu.I (k := 16 * p + q) (a := 1324) (Or.inr ⟨by decide, by decide, by omega, by omega⟩), sM.me (a := 1290) hm (by decide) (by decide) (by omega) (by omega), sM.me (a := 1291) hm (by decide) (by decide) (by omega) (by omega)]
      intro e
      rcases z5 q q1 e with e | ⟨y, t, e1, e2, e3, e4, e5⟩
      · exact Or.inl e
      · exact Or.inr ⟨y, t, e1, e2, e3, by have := hK (rt t); omega, e5⟩
  · rw [w _ (by decide) (by decide)]
    refine ⟨(x10 y1).1, fun r hr2 => ?_⟩
    rw [m _ _ (by decide) (by decide), m _ _ (by decide) (by decide)]
    exact (x10 y1).2 r hr2
theorem RelU1.fr (h : RelU1 us κ ρ u) (hus : us' u = us u) (hc : Eqv (uC1 u) κ κ') (hm : Eqv (uM1 u) ρ ρ') : RelU1 us' κ' ρ' u := by
  obtain ⟨h1, h2⟩ := h
  have c : ∀ k, (k = 4 ∨ k = 5 ∨ k = 6) → mI κ' (533 + 184 * u) k = mI κ (533 + 184 * u) k := fun k x => hc.I (Or.inl ⟨rfl, x⟩)
  have m : ∀ a, 1316 ≤ a → a ≤ 1318 → mI ρ' a u = mI ρ a u := fun a x y => hm.I (Or.inl ⟨x, y, rfl⟩)
  unfold RelU1 UnR
  rw [hus, c _ (Or.inl rfl), c _ (Or.inr (Or.inl rfl)), c _ (Or.inr (Or.inr rfl)), m _ (by decide) (by decide), m _ (by decide) (by decide), m _ (by decide) (by decide)]
  refine ⟨h1, h2.imp id (fun h2 => ⟨h2.1, h2.2.1, h2.2.2.1, h2.2.2.2.1, h2.2.2.2.2.1, fun k hk => ?_⟩)⟩
  have h60 := h2.2.1
  refine (h2.2.2.2.2.2 k hk).f1 (hc.mo fun a j z => Or.inr ⟨k, by omega, z⟩) (hm.mo fun a j z => ?_)
  rcases z with z | z
  · exact Or.inr (Or.inl (by omega))
  · exact Or.inr (Or.inr (by omega))
theorem ThU.fr (h : ThU n r0 mc rt K us ρ u) (hl : mI ρ 1316 u = 1 → us u ≤ 60) (hS : RelS sc n mc rt hc κ ρ) (hr : Eqv rM ρ ρ') (hm : Eqv sM ρ ρ') (hus : us' u = us u) (hu : Eqv (uM1 u) ρ ρ') (hK : ∀ f, K f ≤ K' f) : ThU n r0 mc rt K' us' ρ' u := by
  unfold ThU
  rw [hus, hu.I (Or.inl ⟨by decide, by decide, rfl⟩)]
  intro ho
  have h60 := hl ho
  obtain ⟨h1, h2⟩ := h ho
  refine ⟨fun k hk => (h1 k hk).f1 hS hr hm (hu.mo fun a j z => ?_) hK, fun k k' hk hk' => ?_⟩
  · rcases z with z | z
    · exact Or.inr (Or.inl (by omega))
    · exact Or.inr (Or.inr (by omega))
  · have w : ∀ a k, 1319 ≤ a → a ≤ 1323 → k < us u → mI ρ' a (60 * u + k) = mI ρ a (60 * u + k) := fun a k x y z => hu.I (Or.inr (Or.inl ⟨x, y, by omega, by omega⟩))
    rw [w _ _ (by decide) (by decide) hk, w _ _ (by decide) (by decide) hk, w _ _ (by decide) (by decide) hk', w _ _ (by decide) (by decide) hk']
    exact h2 k k' hk hk'
theorem newK.fr (hus : us' u = us u) (h60 : us u ≤ 60) (hu : Eqv (uM1 u) ρ ρ') {f x : Int32} (h : newK us' ρ' u f x) : newK us ρ u f x := by
  obtain ⟨k, h1, h2, h3, h4⟩ := h
  have w : ∀ a k, 1319 ≤ a → a ≤ 1323 → k < us u → mI ρ' a (60 * u + k) = mI ρ a (60 * u + k) := fun a k x y z => hu.I (Or.inr (Or.inl ⟨x, y, by omega, by omega⟩))
  rw [hus] at h1
  rw [w _ _ (by decide) (by decide) h1] at h2 h3 h4
  exact ⟨k, h1, h2, h3, h4⟩
theorem RowsW.up (h : RowsW n r0 mc rt K ρ) (hK : ∀ f, K f ≤ K' f) : RowsW n r0 mc rt K' ρ := by
  intro r hr
  obtain ⟨f, c, x, x1, x2, x3, x4, x5, x6, x7, x8⟩ := h r hr
  exact ⟨f, c, x, x1, x2, x3, x4, x5, x6, by have := hK f; omega, x8⟩
def bC (sc u a k : Nat) : Prop := tC a k ∨ fC a k ∨ sCc sc a k ∨ rC a k ∨ wC a k ∨ dC a k ∨ nC a k ∨ ∃ v, v < 4 ∧ v ≠ u ∧ uC1 v a k
def bM (u a k : Nat) : Prop := tM a k ∨ fM a k ∨ sM a k ∨ rM a k ∨ wM a k ∨ dM a k ∨ ∃ v, v < 4 ∧ v ≠ u ∧ uM1 v a k
/-- the relation behind a change in one unit (and of the keys) -/
theorem RelA.unit (h : RelA nn sc n mc rt hc K N r0 us κ ρ) (h1 : StC κ') (h2 : StM ρ') (hcc : Eqv (bC sc u) κ κ') (hm : Eqv (bM u) ρ ρ') {nn' : Nat} (hu : u < 4) (hKK : ∀ f, K f ≤ K' f) (yK : RelK K' nn' κ' ρ') (hus : ∀ v, v ≠ u → us' v = us v) (yU : RelU1 us' κ' ρ' u) (yT : ThU n r0 mc rt K' us' ρ' u) (yX : mI ρ' 1316 u = 1 → ∀ f x, newK us' ρ' u f x → mI ρ 1316 u = 1 ∧ newK us ρ u f x ∨ ∀ v, v < 4 → v ≠ u → mI ρ 1316 v = 1 → ¬ newK us ρ v f x) (yC : ClsW r0 us' ρ') : RelA nn' sc n mc rt hc K' N r0 us' κ' ρ' := by
  obtain ⟨⟨x1, x2, x3⟩, xT, xF, xS, xN, xK, xR, xU, xW, xD, xY, xZ⟩ := h
  have eS : Eqv sM ρ ρ' := hm.mo fun a k z => Or.inr (Or.inr (Or.inl z))
  have eR : Eqv rM ρ ρ' := hm.mo fun a k z => Or.inr (Or.inr (Or.inr (Or.inl z)))
  have eUC : ∀ v, v < 4 → v ≠ u → Eqv (uC1 v) κ κ' := fun v v1 v2 => hcc.mo fun a k z => Or.inr (Or.inr (Or.inr (Or.inr (Or.inr (Or.inr (Or.inr ⟨v, v1, v2, z⟩))))))
  have eUM : ∀ v, v < 4 → v ≠ u → Eqv (uM1 v) ρ ρ' := fun v v1 v2 => hm.mo fun a k z => Or.inr (Or.inr (Or.inr (Or.inr (Or.inr (Or.inr ⟨v, v1, v2, z⟩)))))
  have op : ∀ v, v < 4 → v ≠ u → mI ρ' 1316 v = mI ρ 1316 v := fun v v1 v2 => (eUM v v1 v2).I (Or.inl ⟨by decide, by decide, rfl⟩)
  have le : ∀ v, v < 4 → mI ρ 1316 v = 1 → us v ≤ 60 := fun v v1 v2 => ((xU v v1).2.resolve_left (by rw [v2]; decide)).2.1
  have hT : ∀ v, v < 4 → ThU n r0 mc rt K' us' ρ' v := fun v v1 => by
    by_cases e : v = u
    · subst e; exact yT
    · exact ThU.fr (fun ho => ⟨xZ.1 v v1 ho, xZ.2.1 v v1 ho⟩) (le v v1) xS eR eS (hus v e) (eUM v v1 e) hKK
  refine ⟨⟨h1, h2, x3.fr (hcc.mo fun a k z => Or.inr (Or.inr (Or.inr (Or.inr (Or.inr (Or.inr (Or.inl z)))))))⟩, xT.fr (hcc.mo fun a k z => Or.inl z) (hm.mo fun a k z => Or.inl z), xF.fr (hcc.mo fun a k z => Or.inr (Or.inl z)) (hm.mo fun a k z => Or.inr (Or.inl z)), xS.fr (hcc.mo fun a k z => Or.inr (Or.inr (Or.inl z))) eS, xN.fr xS (hcc.mo fun a k z => Or.inr (Or.inr (Or.inl z))) eS, yK, xR.fr (hcc.mo fun a k z => Or.inr (Or.inr (Or.inr (Or.inl z)))) eR, fun v v1 => ?_, xW.fr (hcc.mo fun a k z => Or.inr (Or.inr (Or.inr (Or.inr (Or.inl z))))) (hm.mo fun a k z => Or.inr (Or.inr (Or.inr (Or.inr (Or.inl z))))), xD.fr (hcc.mo fun a k z => Or.inr (Or.inr (Or.inr (Or.inr (Or.inr (Or.inl z)))))) (hm.mo fun a k z => Or.inr (Or.inr (Or.inr (Or.inr (Or.inr (Or.inl z)))))), (xY.fr xS eR eS).up hKK, fun v v1 v2 => (hT v v1 v2).1, fun v v1 v2 => (hT v v1 v2).2, fun v v' v1 v1' v2 v2' k k' k1 k1' s1 s1' f1 f2 => ?_, yC⟩
  · by_cases e : v = u
    · subst e; exact yU
    · exact RelU1.fr (xU v v1) (hus v e) (eUC v v1 e) (eUM v v1 e)
  · have n1 : newK us' ρ' v (mI ρ' 1320 (60 * v' + k')) (mI ρ' 1321 (60 * v' + k')) := ⟨k, k1, s1, f1, f2⟩
    have n2 : newK us' ρ' v' (mI ρ' 1320 (60 * v' + k')) (mI ρ' 1321 (60 * v' + k')) := ⟨k', k1', s1', rfl, rfl⟩
    by_cases e : v = v'
    · exact e
    · exfalso
      have far : ∀ w w' f x, w < 4 → w' < 4 → w ≠ w' → mI ρ 1316 w = 1 → mI ρ 1316 w' = 1 → newK us ρ w f x → newK us ρ w' f x → False := by
        rintro w w' f x w1 w2 w3 w4 w5 ⟨k, a1, a2, a3, a4⟩ ⟨k', b1, b2, b3, b4⟩
        exact w3 (xZ.2.2.1 w w' w1 w2 w4 w5 k k' a1 b1 a2 b2 (a3.trans b3.symm) (a4.trans b4.symm))
      by_cases e1 : v = u
      · subst e1
        rw [op v' v1' (Ne.symm e)] at v2'
        have n2' := n2.fr (hus v' (Ne.symm e)) (le v' v1' v2') (eUM v' v1' (Ne.symm e))
        rcases yX v2 _ _ n1 with ⟨a1, a2⟩ | a1
        · exact far v v' _ _ v1 v1' e a1 v2' a2 n2'
        · exact a1 v' v1' (Ne.symm e) v2' n2'
      · rw [op v v1 e1] at v2
        have n1' := n1.fr (hus v e1) (le v v1 v2) (eUM v v1 e1)
        by_cases e2 : v' = u
        · subst e2
          rcases yX v2' _ _ n2 with ⟨a1, a2⟩ | a1
          · exact far v v' _ _ v1 v1' e v2 a1 n1' a2
          · exact a1 v v1 e1 v2 n1'
        · rw [op v' v1' e2] at v2'
          exact far v v' _ _ v1 v1' e v2 v2' n1' (n2.fr (hus v' e2) (le v' v1' v2') (eUM v' v1' e2))
end UN
