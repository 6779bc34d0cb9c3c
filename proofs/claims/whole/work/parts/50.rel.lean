/-! what stays: by cell and slot -/
def Eqv (S : Nat → Nat → Prop) (σ σ' : Mem) : Prop := ∀ a k, S a k → mI σ' a k = mI σ a k ∧ mJ σ' a k = mJ σ a k ∧ mR σ' a k = mR σ a k
section EQV
variable {S T : Nat → Nat → Prop} {σ σ' σ'' : Mem} {a k : Nat}
theorem Eqv.rf : Eqv S σ σ := fun _ _ _ => ⟨rfl, rfl, rfl⟩
theorem Eqv.tr (h : Eqv S σ σ') (h2 : Eqv S σ' σ'') : Eqv S σ σ'' := fun a k hs => ⟨(h2 a k hs).1.trans (h a k hs).1, (h2 a k hs).2.1.trans (h a k hs).2.1, (h2 a k hs).2.2.trans (h a k hs).2.2⟩
theorem Eqv.mo (h : Eqv S σ σ') (hs : ∀ a k, T a k → S a k) : Eqv T σ σ' := fun a k ht => h a k (hs a k ht)
theorem Eqv.wI (h : ¬ S a k) (v : Int32) : Eqv S σ (sI σ a k v) := fun b j hs => ⟨by rw [mI_sI, if_neg (by rintro ⟨rfl, rfl⟩; exact h hs)], rfl, rfl⟩
theorem Eqv.wJ (h : ¬ S a k) (v : Int64) : Eqv S σ (sJ σ a k v) := fun b j hs => ⟨rfl, by rw [mJ_sJ, if_neg (by rintro ⟨rfl, rfl⟩; exact h hs)], rfl⟩
theorem Eqv.wR (h : ¬ S a k) (v : Nat) : Eqv S σ (sR σ a k v) := fun b j hs => ⟨rfl, rfl, by rw [mR_sR, if_neg (by rintro ⟨rfl, rfl⟩; exact h hs)]⟩
theorem Eqv.sI (h : Eqv S σ σ') (hs : ¬ S a k) (v : Int32) : Eqv S σ (sI σ' a k v) := h.tr (Eqv.wI hs v)
theorem Eqv.I (h : Eqv S σ σ') (hs : S a k) : mI σ' a k = mI σ a k := (h a k hs).1
theorem Eqv.J (h : Eqv S σ σ') (hs : S a k) : mJ σ' a k = mJ σ a k := (h a k hs).2.1
theorem Eqv.R (h : Eqv S σ σ') (hs : S a k) : mR σ' a k = mR σ a k := (h a k hs).2.2
end EQV
/-! the parts of the relation, and what each stands on -/
def bb (b : Nat) : Int32 := (nI b).toInt8.toInt32
def RelT (κ ρ : Mem) : Prop := ∃ z, z ≤ 3000 ∧ mI κ 1 1 = nI z ∧ mI ρ 1282 1 = nI z ∧ ∀ k, k < z → ∃ b, b < 256 ∧ mI ρ 1283 k = nI b ∧ mI κ 2 k = bb b
def tC (a k : Nat) : Prop := a = 1 ∧ k = 1 ∨ a = 2
def tM (a k : Nat) : Prop := a = 1282 ∧ k = 1 ∨ a = 1283
theorem RelT.fr {κ κ' ρ ρ' : Mem} (h : RelT κ ρ) (hc : Eqv tC κ κ') (hm : Eqv tM ρ ρ') : RelT κ' ρ' := by
  obtain ⟨z, h1, h2, h3, h4⟩ := h
  refine ⟨z, h1, (hc.I (Or.inl ⟨rfl, rfl⟩)).trans h2, (hm.I (Or.inl ⟨rfl, rfl⟩)).trans h3, fun k hk => ?_⟩
  obtain ⟨b, e1, e2, e3⟩ := h4 k hk
  exact ⟨b, e1, (hm.I (Or.inr rfl)).trans e2, (hc.I (Or.inr rfl)).trans e3⟩
def RelF (κ ρ : Mem) : Prop := mI κ 3 5 = mI ρ 1282 54 ∧ mI κ 3 6 = mI ρ 1282 55
def fC (a k : Nat) : Prop := a = 3 ∧ (k = 5 ∨ k = 6)
def fM (a k : Nat) : Prop := a = 1282 ∧ (k = 54 ∨ k = 55)
theorem RelF.fr {κ κ' ρ ρ' : Mem} (h : RelF κ ρ) (hc : Eqv fC κ κ') (hm : Eqv fM ρ ρ') : RelF κ' ρ' := ⟨((hc.I ⟨rfl, Or.inl rfl⟩).trans h.1).trans (hm.I ⟨rfl, Or.inl rfl⟩).symm, ((hc.I ⟨rfl, Or.inr rfl⟩).trans h.2).trans (hm.I ⟨rfl, Or.inr rfl⟩).symm⟩
def RelK (K : Nat → Nat) (nn : Nat) (κ ρ : Mem) : Prop := ∀ f, f < 12 → mI κ 531 f = nI (K f) ∧ mI ρ 1310 f = nI (K f) ∧ K f ≤ nn
def kC (a _k : Nat) : Prop := a = 531
def kM (a _k : Nat) : Prop := a = 1310
theorem RelK.fr {κ κ' ρ ρ' : Mem} {K : Nat → Nat} {nn : Nat} (h : RelK K nn κ ρ) (hc : Eqv kC κ κ') (hm : Eqv kM ρ ρ') : RelK K nn κ' ρ' := fun f hf => ⟨(hc.I rfl).trans (h f hf).1, (hm.I rfl).trans (h f hf).2.1, (h f hf).2.2⟩
/-- a row: the class's i-th one of a family, the reference's r-th -/
def RowR (κ ρ : Mem) (f i r : Nat) : Prop := mI ρ 1305 r = nI f ∧ mI κ 271 (60 * f + i) = mI ρ 1306 r ∧ mI κ 272 (60 * f + i) = mI ρ 1307 r ∧ mI κ 273 (60 * f + i) = mI ρ 1308 r ∧ ∀ m, m < 16 → mI κ 274 (16 * (60 * f + i) + m) = mI ρ 1309 (16 * r + m)
def cnt (g : Nat → Int32) (x : Int32) : Nat → Nat
  | 0 => 0
  | r + 1 => cnt g x r + if g r = x then 1 else 0
def sum12 (N : Nat → Nat) : Nat := N 0 + N 1 + N 2 + N 3 + N 4 + N 5 + N 6 + N 7 + N 8 + N 9 + N 10 + N 11
def RelR (N : Nat → Nat) (r0 : Nat) (κ ρ : Mem) : Prop :=
  (∀ f, f < 12 → mI κ 270 f = nI (N f) ∧ N f ≤ 60) ∧ mI ρ 1282 26 = nI r0 ∧ r0 = sum12 N ∧
  (∀ f, f < 12 → ∀ i j, i < j → j < N f → mI κ 271 (60 * f + i) < mI κ 271 (60 * f + j)) ∧
  (∀ f, f < 12 → ∀ i, i < N f → ∃ r, r < r0 ∧ RowR κ ρ f i r) ∧
  (∀ r, r < r0 → ∃ f, f < 12 ∧ ∃ i, i < N f ∧ RowR κ ρ f i r) ∧
  (∀ r r', r < r0 → r' < r0 → mI ρ 1305 r = mI ρ 1305 r' → mI ρ 1306 r = mI ρ 1306 r' → r = r') ∧
  (∀ f, f < 12 → cnt (fun r => mI ρ 1305 r) (nI f) r0 = N f)
def rC (a _k : Nat) : Prop := 270 ≤ a ∧ a ≤ 274
def rM (a k : Nat) : Prop := a = 1282 ∧ k = 26 ∨ 1305 ≤ a ∧ a ≤ 1309
theorem RowR.fr {κ κ' ρ ρ' : Mem} {f i r : Nat} (h : RowR κ ρ f i r) (hc : Eqv rC κ κ') (hm : Eqv rM ρ ρ') : RowR κ' ρ' f i r := by
  obtain ⟨h1, h2, h3, h4, h5⟩ := h
  have c : ∀ a k, 270 ≤ a → a ≤ 274 → mI κ' a k = mI κ a k := fun a k x y => hc.I ⟨x, y⟩
  have m : ∀ a k, 1305 ≤ a → a ≤ 1309 → mI ρ' a k = mI ρ a k := fun a k x y => hm.I (Or.inr ⟨x, y⟩)
  refine ⟨?_, ?_, ?_, ?_, fun j hj => ?_⟩
  · rw [m _ _ (by decide) (by decide)]; exact h1
  · rw [m _ _ (by decide) (by decide), c _ _ (by decide) (by decide)]; exact h2
  · rw [m _ _ (by decide) (by decide), c _ _ (by decide) (by decide)]; exact h3
  · rw [m _ _ (by decide) (by decide), c _ _ (by decide) (by decide)]; exact h4
  · rw [m _ _ (by decide) (by decide), c _ _ (by decide) (by decide)]; exact h5 j hj
theorem RelR.fr {κ κ' ρ ρ' : Mem} {N : Nat → Nat} {r0 : Nat} (h : RelR N r0 κ ρ) (hc : Eqv rC κ κ') (hm : Eqv rM ρ ρ') : RelR N r0 κ' ρ' := by
  obtain ⟨h1, h2, h3, h4, h5, h6, h7, h8⟩ := h
  have c : ∀ a k, 270 ≤ a → a ≤ 274 → mI κ' a k = mI κ a k := fun a k x y => hc.I ⟨x, y⟩
  have m : ∀ a k, 1305 ≤ a → a ≤ 1309 → mI ρ' a k = mI ρ a k := fun a k x y => hm.I (Or.inr ⟨x, y⟩)
  refine ⟨fun f hf => ?_, (hm.I (Or.inl ⟨rfl, rfl⟩)).trans h2, h3, fun f hf i j hij hj => ?_, fun f hf i hi => ?_, fun r hr => ?_, fun r r' hr hr' e1 e2 => ?_, fun f hf => ?_⟩
  · rw [c _ _ (by decide) (by decide)]; exact h1 f hf
  · rw [c _ _ (by decide) (by decide), c _ _ (by decide) (by decide)]; exact h4 f hf i j hij hj
  · obtain ⟨r, hr, x⟩ := h5 f hf i hi
    exact ⟨r, hr, x.fr hc hm⟩
  · obtain ⟨f, hf, i, hi, x⟩ := h6 r hr
    exact ⟨f, hf, i, hi, x.fr hc hm⟩
  · rw [m _ _ (by decide) (by decide), m _ _ (by decide) (by decide)] at e1 e2
    exact h7 r r' hr hr' e1 e2
  · rw [← h8 f hf]
    congr 1
    funext r
    exact m _ _ (by decide) (by decide)
/-- an object: the class's, the reference's -/
def ThR (u k : Nat) (κ ρ : Mem) : Prop :=
  mI κ (537 + 184 * u + 3 * k) 1 = mI ρ 1319 (60 * u + k) ∧ mI κ (537 + 184 * u + 3 * k) 2 = mI ρ 1320 (60 * u + k) ∧ mI κ (537 + 184 * u + 3 * k) 3 = mI ρ 1321 (60 * u + k) ∧ mI κ (537 + 184 * u + 3 * k) 4 = mI ρ 1322 (60 * u + k) ∧ mI κ (537 + 184 * u + 3 * k) 5 = mI ρ 1323 (60 * u + k) ∧
  ∀ m, m < 16 → mI κ (538 + 184 * u + 3 * k) m = mI ρ 1324 (16 * (60 * u + k) + m) ∧ mI κ (539 + 184 * u + 3 * k) m = mI ρ 1325 (16 * (60 * u + k) + m)
def UnR (us : Nat → Nat) (κ ρ : Mem) (u : Nat) : Prop := us u ≤ 60 ∧ mI κ (533 + 184 * u) 5 = nI (us u) ∧ mI ρ 1317 u = nI (us u) ∧ mI κ (533 + 184 * u) 6 = mI ρ 1318 u ∧ ∀ k, k < us u → ThR u k κ ρ
def RelU (us : Nat → Nat) (κ ρ : Mem) : Prop := ∀ u, u < 4 → mI κ (533 + 184 * u) 4 = mI ρ 1316 u ∧ (mI ρ 1316 u = 0 ∨ mI ρ 1316 u = 1 ∧ UnR us κ ρ u)
def uC (a k : Nat) : Prop := ∃ u, u < 4 ∧ (a = 533 + 184 * u ∧ (k = 4 ∨ k = 5 ∨ k = 6) ∨ ∃ j, j < 60 ∧ (a = 537 + 184 * u + 3 * j ∧ 1 ≤ k ∧ k ≤ 5 ∨ a = 538 + 184 * u + 3 * j ∨ a = 539 + 184 * u + 3 * j))
def uM (a _k : Nat) : Prop := 1316 ≤ a ∧ a ≤ 1325
theorem ThR.fr {κ κ' ρ ρ' : Mem} {u k : Nat} (h : ThR u k κ ρ) (hu : u < 4) (hk : k < 60) (hc : Eqv uC κ κ') (hm : Eqv uM ρ ρ') : ThR u k κ' ρ' := by
  obtain ⟨h1, h2, h3, h4, h5, h6⟩ := h
  have c : ∀ j, 1 ≤ j → j ≤ 5 → mI κ' (537 + 184 * u + 3 * k) j = mI κ (537 + 184 * u + 3 * k) j := fun j x y => hc.I ⟨u, hu, Or.inr ⟨k, hk, Or.inl ⟨rfl, x, y⟩⟩⟩
  have m : ∀ a k, 1316 ≤ a → a ≤ 1325 → mI ρ' a k = mI ρ a k := fun a k x y => hm.I ⟨x, y⟩
  refine ⟨?_, ?_, ?_, ?_, ?_, fun j hj => ⟨?_, ?_⟩⟩
  · rw [m _ _ (by decide) (by decide), c _ (by decide) (by decide)]; exact h1
  · rw [m _ _ (by decide) (by decide), c _ (by decide) (by decide)]; exact h2
  · rw [m _ _ (by decide) (by decide), c _ (by decide) (by decide)]; exact h3
  · rw [m _ _ (by decide) (by decide), c _ (by decide) (by decide)]; exact h4
  · rw [m _ _ (by decide) (by decide), c _ (by decide) (by decide)]; exact h5
  · rw [m _ _ (by decide) (by decide), hc.I ⟨u, hu, Or.inr ⟨k, hk, Or.inr (Or.inl rfl)⟩⟩]; exact (h6 j hj).1
  · rw [m _ _ (by decide) (by decide), hc.I ⟨u, hu, Or.inr ⟨k, hk, Or.inr (Or.inr rfl)⟩⟩]; exact (h6 j hj).2
theorem RelU.fr {κ κ' ρ ρ' : Mem} {us : Nat → Nat} (h : RelU us κ ρ) (hc : Eqv uC κ κ') (hm : Eqv uM ρ ρ') : RelU us κ' ρ' := by
  intro u hu
  have m : ∀ a k, 1316 ≤ a → a ≤ 1325 → mI ρ' a k = mI ρ a k := fun a k x y => hm.I ⟨x, y⟩
  have c : ∀ k, (k = 4 ∨ k = 5 ∨ k = 6) → mI κ' (533 + 184 * u) k = mI κ (533 + 184 * u) k := fun k x => hc.I ⟨u, hu, Or.inl ⟨rfl, x⟩⟩
  obtain ⟨h1, h2⟩ := h u hu
  rw [m _ _ (by decide) (by decide), c _ (Or.inl rfl)]
  refine ⟨h1, h2.imp id (fun h2 => ⟨h2.1, h2.2.1, ?_, ?_, ?_, fun k hk => ?_⟩)⟩
  · rw [c _ (Or.inr (Or.inl rfl))]; exact h2.2.2.1
  · rw [m _ _ (by decide) (by decide)]; exact h2.2.2.2.1
  · rw [m _ _ (by decide) (by decide), c _ (Or.inr (Or.inr rfl))]; exact h2.2.2.2.2.1
  · exact (h2.2.2.2.2.2 k hk).fr hu (by have := h2.2.1; omega) hc hm
/-- the latest writing -/
def RelW (κ ρ : Mem) : Prop := mI κ 1269 4 = mI ρ 1282 64 ∧ mI κ 1269 5 = mI ρ 1282 65 ∧ mI κ 1269 6 = mI ρ 1282 66 ∧ mI κ 1269 7 = mI ρ 1282 67 ∧ mI κ 1269 8 = mI ρ 1282 68 ∧ ∃ w, w ≤ 120 ∧ mI κ 1269 9 = nI w ∧ mI ρ 1282 69 = nI w ∧ ∀ i, i < w → mI κ 1271 i = mI ρ 1330 i ∧ mI κ 1272 i = mI ρ 1331 i ∧ mI κ 1273 i = mI ρ 1332 i ∧ mI κ 1274 i = mI ρ 1333 i
def wC (a k : Nat) : Prop := a = 1269 ∧ 4 ≤ k ∧ k ≤ 9 ∨ 1271 ≤ a ∧ a ≤ 1274
def wM (a k : Nat) : Prop := a = 1282 ∧ 64 ≤ k ∧ k ≤ 69 ∨ 1330 ≤ a ∧ a ≤ 1333
theorem RelW.fr {κ κ' ρ ρ' : Mem} (h : RelW κ ρ) (hc : Eqv wC κ κ') (hm : Eqv wM ρ ρ') : RelW κ' ρ' := by
  obtain ⟨h1, h2, h3, h4, h5, w, h6, h7, h8, h9⟩ := h
  have c : ∀ k, 4 ≤ k → k ≤ 9 → mI κ' 1269 k = mI κ 1269 k := fun k x y => hc.I (Or.inl ⟨rfl, x, y⟩)
  have m : ∀ k, 64 ≤ k → k ≤ 69 → mI ρ' 1282 k = mI ρ 1282 k := fun k x y => hm.I (Or.inl ⟨rfl, x, y⟩)
  have c2 : ∀ a k, 1271 ≤ a → a ≤ 1274 → mI κ' a k = mI κ a k := fun a k x y => hc.I (Or.inr ⟨x, y⟩)
  have m2 : ∀ a k, 1330 ≤ a → a ≤ 1333 → mI ρ' a k = mI ρ a k := fun a k x y => hm.I (Or.inr ⟨x, y⟩)
  refine ⟨?_, ?_, ?_, ?_, ?_, w, h6, ?_, ?_, fun i hi => ?_⟩
  · rw [c _ (by decide) (by decide), m _ (by decide) (by decide)]; exact h1
  · rw [c _ (by decide) (by decide), m _ (by decide) (by decide)]; exact h2
  · rw [c _ (by decide) (by decide), m _ (by decide) (by decide)]; exact h3
  · rw [c _ (by decide) (by decide), m _ (by decide) (by decide)]; exact h4
  · rw [c _ (by decide) (by decide), m _ (by decide) (by decide)]; exact h5
  · rw [c _ (by decide) (by decide)]; exact h7
  · rw [m _ (by decide) (by decide)]; exact h8
  · rw [c2 _ _ (by decide) (by decide), c2 _ _ (by decide) (by decide), c2 _ _ (by decide) (by decide), c2 _ _ (by decide) (by decide), m2 _ _ (by decide) (by decide), m2 _ _ (by decide) (by decide), m2 _ _ (by decide) (by decide), m2 _ _ (by decide) (by decide)]
    exact h9 i hi
def RelD (κ ρ : Mem) : Prop := ∃ t, t ≤ 60 ∧ mI κ 1 12 = nI t ∧ mI ρ 1282 90 = nI t ∧ ∀ i, i < t → mI κ 1281 i = mI ρ 1345 i
def dC (a k : Nat) : Prop := a = 1 ∧ k = 12 ∨ a = 1281
def dM (a k : Nat) : Prop := a = 1282 ∧ k = 90 ∨ a = 1345
theorem RelD.fr {κ κ' ρ ρ' : Mem} (h : RelD κ ρ) (hc : Eqv dC κ κ') (hm : Eqv dM ρ ρ') : RelD κ' ρ' := by
  obtain ⟨t, h1, h2, h3, h4⟩ := h
  refine ⟨t, h1, (hc.I (Or.inl ⟨rfl, rfl⟩)).trans h2, (hm.I (Or.inl ⟨rfl, rfl⟩)).trans h3, fun i hi => ?_⟩
  rw [hc.I (Or.inr rfl), hm.I (Or.inr rfl)]
  exact h4 i hi
/-- the objects' numbers -/
def NumC (κ : Mem) : Prop := ∀ u k, u < 4 → k < 60 → mI κ (537 + 184 * u + 3 * k) 0 = nI (100 * u + k)
def nC (a k : Nat) : Prop := ∃ u j, u < 4 ∧ j < 60 ∧ a = 537 + 184 * u + 3 * j ∧ k = 0
theorem NumC.fr {κ κ' : Mem} (h : NumC κ) (hc : Eqv nC κ κ') : NumC κ' := fun u k hu hk => (hc.I ⟨u, k, hu, hk, rfl, rfl⟩).trans (h u k hu hk)
