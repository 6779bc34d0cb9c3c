/-! the draft of the class (cell sd), the reference's upper half -/
def upM (a k : Nat) : Prop := (1284 ≤ a ∧ a ≤ 1288 ∧ 13 ≤ k) ∨ (1289 ≤ a ∧ a ≤ 1300 ∧ 208 ≤ k) ∨ (1301 ≤ a ∧ a ≤ 1303 ∧ 52 ≤ k) ∨ (a = 1304 ∧ 1600 ≤ k)
def dfC (sd a _k : Nat) : Prop := ¬ (3 ≤ a ∧ a ≤ 7 ∨ sd ≤ a ∧ a < sd + 256)
def dfM (a k : Nat) : Prop := ¬ (a = 1282 ∧ (k = 24 ∨ k = 25 ∨ 49 ≤ k ∧ k ≤ 56) ∨ upM a k)
def dpC (sd a k : Nat) : Prop := ¬ (3 ≤ a ∧ a ≤ 7 ∧ (a ≠ 3 ∨ k ≠ 5 ∧ k ≠ 6) ∨ sd ≤ a ∧ a < sd + 256)
def dpM (a k : Nat) : Prop := ¬ (a = 1282 ∧ (k = 24 ∨ k = 25 ∨ 49 ≤ k ∧ k ≤ 53 ∨ k = 56) ∨ upM a k)
def drC (sd a k : Nat) : Prop := ¬ (sd ≤ a ∧ a < sd + 256 ∨ a = 7 ∧ k = 2)
def drM (a k : Nat) : Prop := ¬ (a = 1282 ∧ (k = 25 ∨ k = 56) ∨ upM a k)
def PS (κ0 ρ0 : Mem) (sd : Nat) (B : Nat → Nat) (z T : Nat) (κ ρ : Mem) (i : Nat) : Prop := (StC κ ∧ StM ρ) ∧ (TC κ B z T i ∧ TM ρ B z (pos B z i)) ∧ (Eqv (dpC sd) κ0 κ ∧ Eqv dpM ρ0 ρ) ∧ mR κ 7 1 = sd ∧ (sd = 14 ∨ sd = 275)
def Fl (κ0 ρ0 : Mem) (sd : Nat) (κ ρ : Mem) : Prop := (StC κ ∧ StM ρ) ∧ (Eqv (dfC sd) κ0 κ ∧ Eqv dfM ρ0 ρ) ∧ mI κ 3 5 = mI ρ 1282 54 ∧ mI κ 3 6 = mI ρ 1282 55
section PSX
variable {κ0 ρ0 κ κ' ρ ρ' ρ2 : Mem} {sd z T i : Nat} {B : Nat → Nat}
theorem PS.fail (h : PS κ0 ρ0 sd B z T κ ρ i) (f : Int32) {p : Nat} : Fl κ0 ρ0 sd (flC κ f p) (flM ρ f p) := by
  obtain ⟨⟨h1, h2⟩, -, ⟨e1, e2⟩, -, -⟩ := h
  have e1 : Eqv (dfC sd) κ0 κ := e1.mo fun a k hh => by unfold dfC at hh; unfold dpC; omega
  have e2 : Eqv dfM ρ0 ρ := e2.mo fun a k hh q => hh (by rcases q with q | q; exact Or.inl ⟨q.1, by omega⟩; exact Or.inr q)
  refine ⟨⟨(h1.wI _ _ _).wI _ _ _, (h2.wI _ _ _).wI _ _ _⟩, ⟨(e1.sI (fun h => h (by omega)) _).sI (fun h => h (by omega)) _, (e2.sI (fun h => h (by omega)) _).sI (fun h => h (by omega)) _⟩, ?_, ?_⟩
  · rw [I_sl (by decide), I_is, I_sl (by decide), I_is]
  · rw [I_is, I_is]
theorem PS.ps (h : PS κ0 ρ0 sd B z T κ ρ i) (hi : i < T) (h2 : StM ρ2) (e : Eqv avM ρ ρ2) (t : TM ρ2 B z (pos B z (i + 1))) : PS κ0 ρ0 sd B z T (psC κ i) ρ2 (i + 1) := by
  obtain ⟨⟨x1, x2⟩, ⟨x3, x4⟩, ⟨x5, x6⟩, x7, x8⟩ := h
  exact ⟨⟨x1.wI _ _ _, h2⟩, ⟨x3.ps hi, t⟩, ⟨x5.sI (fun h => h (by omega)) _, x6.tr (e.mo fun a k q hh => q (Or.inl ⟨hh.1, by omega⟩))⟩, x7, x8⟩
theorem PS.fr (h : PS κ0 ρ0 sd B z T κ ρ i) (h1 : StC κ') (h2 : StM ρ') (e1 : Eqv (drC sd) κ κ') (e2 : Eqv drM ρ ρ') : PS κ0 ρ0 sd B z T κ' ρ' i := by
  obtain ⟨⟨x1, x2⟩, ⟨x3, x4⟩, ⟨x5, x6⟩, x7, x8⟩ := h
  have a1 : ∀ a k, 3 ≤ a → a ≤ 6 → drC sd a k := fun a k y1 y2 => by unfold drC; omega
  refine ⟨⟨h1, h2⟩, ⟨⟨x3.1.fr (e1.I (a1 _ _ (by decide) (by decide))) (fun a k y1 y2 => ⟨e1.I (a1 _ _ (by omega) y2), e1.J (a1 _ _ (by omega) y2)⟩), (e1.I (a1 _ _ (by decide) (by decide))).trans x3.2.1, x3.2.2⟩, x4.fr (e2.mo fun a k (q : a = 1282 ∧ (k = 1 ∨ 49 ≤ k ∧ k ≤ 53) ∨ a = 1283) => by unfold drM upM; omega)⟩, ⟨x5.tr (e1.mo fun a k q => by unfold dpC at q; unfold drC; omega), x6.tr (e2.mo fun a k q hh => q (by rcases hh with hh | hh; exact Or.inl ⟨hh.1, by omega⟩; exact Or.inr hh))⟩, (e1.R (by unfold drC; omega)).trans x7, x8⟩
end PSX
def DCnt (sd : Nat) (mc hc : Nat → Nat) (κ ρ : Mem) (c : Nat) : Prop := (mI κ (sd + 4 + 5 * c) 4 = nI (mc c) ∧ mI ρ 1287 (13 + c) = nI (mc c)) ∧ (mI κ (sd + 4 + 5 * c) 6 = nI (hc c) ∧ mI ρ 1288 (13 + c) = nI (hc c))
def DCls (sd : Nat) (rt : Nat → Nat) (κ ρ : Mem) (c : Nat) : Prop := WdR (mJ κ (sd + 4 + 5 * c) 0) (mJ ρ 1284 (13 + c)) ∧ mI κ (sd + 4 + 5 * c) 1 = mI ρ 1285 (13 + c) ∧ mI κ (sd + 4 + 5 * c) 2 = nI (rt c) ∧ mI κ (sd + 4 + 5 * c) 3 = mI ρ 1286 (13 + c) ∧ (mI ρ 1286 (13 + c) = 0 ∨ mI ρ 1286 (13 + c) = 1 ∨ mI ρ 1286 (13 + c) = 2)
def DHei (sd : Nat) (mc rt ow : Nat → Nat) (κ ρ : Mem) (c : Nat) : Prop := (mI ρ 1285 (13 + c) = -1 ∧ rt c = c ∧ ow c = 0) ∨ ∃ p, p < c ∧ mI ρ 1285 (13 + c) = nI p ∧ rt c = rt p ∧ ow c = mc p ∧ mI ρ 1286 (13 + c) = mI ρ 1286 (13 + p) ∧ ∀ m, m < mc p → mR κ (sd + 5 + 5 * c) m = mR κ (sd + 5 + 5 * p) m ∧ mJ ρ 1289 (16 * (13 + c) + m) = mJ ρ 1289 (16 * (13 + p) + m) ∧ mI ρ 1290 (16 * (13 + c) + m) = mI ρ 1290 (16 * (13 + p) + m) ∧ mI ρ 1292 (16 * (13 + c) + m) = mI ρ 1292 (16 * (13 + p) + m) ∧ mI ρ 1293 (16 * (13 + c) + m) = mI ρ 1293 (16 * (13 + p) + m) ∧ mI ρ 1294 (16 * (13 + c) + m) = mI ρ 1294 (16 * (13 + p) + m) ∧ mI ρ 1296 (16 * (13 + c) + m) = mI ρ 1296 (16 * (13 + p) + m)
def DNam (sd nw : Nat) (κ ρ : Mem) (x k w : Nat) : Prop := ∃ a, mI κ x 4 = nI a ∧ mI ρ 1292 k = nI (1600 + a) ∧ a + w ≤ nw ∧ (∀ i, i < w → WdR (mJ κ (sd + 3) (a + i)) (mJ ρ 1304 (1600 + a + i))) ∧ ∀ i j, i < w → j < w → mJ ρ 1304 (1600 + a + i) = mJ ρ 1304 (1600 + a + j) → i = j
def DSrt (sd nw : Nat) (κ ρ : Mem) (x k : Nat) : Prop := ∃ kd f w, (kd ≤ 5 ∧ mI κ x 2 = nI kd ∧ mI ρ 1290 k = nI kd) ∧ (f ≤ 6 ∧ mI κ x 3 = nI f ∧ mI ρ 1294 k = nI f ∧ (kd < 4 → f ≤ 1) ∧ (kd = 4 → f % 2 = 0) ∧ (kd = 5 → f = 0 ∨ f = 4)) ∧ (mI κ x 5 = nI w ∧ mI ρ 1293 k = nI w ∧ (3 ≠ kd → w = 0)) ∧ (kd = 3 → DNam sd nw κ ρ x k w) ∧ (4 ≤ kd → WdR (mJ κ x 6) (mJ ρ 1297 k) ∧ mI κ x 7 = mI ρ 1298 k) ∧ (kd = 5 → WdR (mJ κ x 9) (mJ ρ 1299 k) ∧ mI κ x 10 = mI ρ 1300 k)
def DOwn (sd nw : Nat) (κ ρ : Mem) (c m x : Nat) : Prop := mR κ (sd + 5 + 5 * c) m = x ∧ (mI κ x 1 = nI c ∧ mI ρ 1296 (16 * (13 + c) + m) = nI c) ∧ WdR (mJ κ x 0) (mJ ρ 1289 (16 * (13 + c) + m)) ∧ DSrt sd nw κ ρ x (16 * (13 + c) + m)
def DHok (sd : Nat) (mc : Nat → Nat) (κ ρ : Mem) (c h : Nat) : Prop := (mI κ (sd + 6 + 5 * c) h = 1 ∧ mI ρ 1301 (4 * (13 + c) + h) = 0 ∨ mI κ (sd + 6 + 5 * c) h = 0 ∧ mI ρ 1301 (4 * (13 + c) + h) = 1) ∧ (∃ m, m < mc c ∧ mI κ (sd + 7 + 5 * c) h = nI m ∧ mI ρ 1302 (4 * (13 + c) + h) = nI m ∧ mI ρ 1290 (16 * (13 + c) + m) = 0) ∧ mI κ (sd + 8 + 5 * c) h = mI ρ 1303 (4 * (13 + c) + h)
def DLaw (n : Nat) (mc hc ow tb : Nat → Nat) : Prop := tb 0 = 0 ∧ ∀ c, c < n → ow c ≤ mc c ∧ mc c ≤ 16 ∧ hc c ≤ 4 ∧ tb (c + 1) = tb c + (mc c - ow c)
def DB (sd n nw : Nat) (mc rt hc ow tb : Nat → Nat) (κ ρ : Mem) : Prop := (∀ c, c < n → DCls sd rt κ ρ c ∧ DHei sd mc rt ow κ ρ c ∧ (∀ m, ow c ≤ m → m < mc c → DOwn sd nw κ ρ c m (sd + 64 + tb c + (m - ow c))) ∧ ∀ h, h < hc c → DHok sd mc κ ρ c h) ∧ DLaw n mc hc ow tb ∧ n ≤ 12 ∧ nw ≤ 1500
def DRf (sd n nw : Nat) (mc rt hc ow tb : Nat → Nat) (κ ρ : Mem) : Prop := DB sd n nw mc rt hc ow tb κ ρ ∧ (∀ c, c < n → DCnt sd mc hc κ ρ c) ∧ (mI κ sd 0 = nI n ∧ mI κ sd 2 = nI (tb n) ∧ mI κ sd 4 = nI nw) ∧ mI ρ 1282 56 = nI n ∧ mI ρ 1282 25 = nI (1600 + nw)
def dsC (sd n : Nat) (mc hc : Nat → Nat) (tm nw a k : Nat) : Prop := (∃ c, c < n ∧ (a = sd + 4 + 5 * c ∧ k < 4 ∨ a = sd + 5 + 5 * c ∧ k < mc c ∨ (a = sd + 6 + 5 * c ∨ a = sd + 7 + 5 * c ∨ a = sd + 8 + 5 * c) ∧ k < hc c)) ∨ (sd + 64 ≤ a ∧ a < sd + 64 + tm) ∨ (a = sd + 3 ∧ k < nw)
def dsM (n : Nat) (mc hc : Nat → Nat) (nw a k : Nat) : Prop := (∃ c, c < n ∧ (1284 ≤ a ∧ a ≤ 1286 ∧ k = 13 + c ∨ 1289 ≤ a ∧ a ≤ 1300 ∧ (∃ m, m < mc c ∧ k = 16 * (13 + c) + m) ∨ 1301 ≤ a ∧ a ≤ 1303 ∧ ∃ h, h < hc c ∧ k = 4 * (13 + c) + h)) ∨ a = 1304 ∧ 1600 ≤ k ∧ k < 1600 + nw
section DRX
variable {κ κ' ρ ρ' : Mem} {sd n nw : Nat} {mc rt hc ow tb : Nat → Nat}
theorem DLaw.le (h : DLaw n mc hc ow tb) : ∀ c, c ≤ n → tb c ≤ 16 * c := by
  intro c
  induction c with
  | zero => intro _; rw [h.1]; omega
  | succ c ih =>
    intro hc
    have := ih (by omega)
    have := h.2 c (by omega)
    omega
theorem DLaw.mono (h : DLaw n mc hc ow tb) : ∀ d c, c + d ≤ n → tb c ≤ tb (c + d) := by
  intro d
  induction d with
  | zero => intro c _; exact Nat.le_refl _
  | succ d ih =>
    intro c hc
    have := ih c (by omega)
    have := (h.2 (c + d) (by omega)).2.2.2
    rw [show c + (d + 1) = c + d + 1 by omega]
    omega
theorem DLaw.lt (h : DLaw n mc hc ow tb) {c m : Nat} (hc : c < n) (h1 : ow c ≤ m) (h2 : m < mc c) : tb c + (m - ow c) < tb n := by
  have := (h.2 c hc).2.2.2
  have := h.mono (n - (c + 1)) (c + 1) (by omega)
  rw [show c + 1 + (n - (c + 1)) = n by omega] at this
  omega
theorem DNam.fr {x k w : Nat} (h : DNam sd nw κ ρ x k w) (e1 : mI κ' x 4 = mI κ x 4) (e2 : mI ρ' 1292 k = mI ρ 1292 k) (e3 : ∀ j, j < nw → mJ κ' (sd + 3) j = mJ κ (sd + 3) j ∧ mJ ρ' 1304 (1600 + j) = mJ ρ 1304 (1600 + j)) : DNam sd nw κ' ρ' x k w := by
  obtain ⟨a, h1, h2, h3, h4, h5⟩ := h
  have g : ∀ i, i < w → mJ ρ' 1304 (1600 + a + i) = mJ ρ 1304 (1600 + a + i) := fun i hi => by
    rw [show 1600 + a + i = 1600 + (a + i) by omega]; exact (e3 _ (by omega)).2
  refine ⟨a, e1.trans h1, e2.trans h2, h3, fun i hi => ?_, fun i j hi hj => ?_⟩
  · rw [(e3 _ (by omega)).1, g i hi]; exact h4 i hi
  · rw [g i hi, g j hj]; exact h5 i j hi hj
theorem DSrt.fr {x k : Nat} (h : DSrt sd nw κ ρ x k) (e1 : ∀ j, mI κ' x j = mI κ x j ∧ mJ κ' x j = mJ κ x j) (e2 : ∀ a, 1289 ≤ a → a ≤ 1300 → mI ρ' a k = mI ρ a k ∧ mJ ρ' a k = mJ ρ a k) (e3 : ∀ j, j < nw → mJ κ' (sd + 3) j = mJ κ (sd + 3) j ∧ mJ ρ' 1304 (1600 + j) = mJ ρ 1304 (1600 + j)) : DSrt sd nw κ' ρ' x k := by
  obtain ⟨kd, f, w, a1, a2, a3, a4, a5, a6⟩ := h
  have g : ∀ a, 1289 ≤ a → a ≤ 1300 → mI ρ' a k = mI ρ a k := fun a h1 h2 => (e2 a h1 h2).1
  refine ⟨kd, f, w, ?_, ?_, ?_, fun q => ?_, fun q => ?_, fun q => ?_⟩
  · rw [(e1 2).1, g 1290 (by decide) (by decide)]; exact a1
  · rw [(e1 3).1, g 1294 (by decide) (by decide)]; exact a2
  · rw [(e1 5).1, g 1293 (by decide) (by decide)]; exact a3
  · exact (a4 q).fr (e1 4).1 (g 1292 (by decide) (by decide)) e3
  · rw [(e1 6).2, (e2 1297 (by decide) (by decide)).2, (e1 7).1, g 1298 (by decide) (by decide)]; exact a5 q
  · rw [(e1 9).2, (e2 1299 (by decide) (by decide)).2, (e1 10).1, g 1300 (by decide) (by decide)]; exact a6 q
theorem DB.fr (h : DB sd n nw mc rt hc ow tb κ ρ) (e1 : Eqv (dsC sd n mc hc (tb n) nw) κ κ') (e2 : Eqv (dsM n mc hc nw) ρ ρ') : DB sd n nw mc rt hc ow tb κ' ρ' := by
  obtain ⟨h1, h2, h3, h4⟩ := h
  have gk : ∀ c k, c < n → k < 4 → mI κ' (sd + 4 + 5 * c) k = mI κ (sd + 4 + 5 * c) k ∧ mJ κ' (sd + 4 + 5 * c) k = mJ κ (sd + 4 + 5 * c) k := fun c k a b => by
    have := e1 (sd + 4 + 5 * c) k (Or.inl ⟨c, a, Or.inl ⟨rfl, b⟩⟩); exact ⟨this.1, this.2.1⟩
  have gm : ∀ c k, c < n → k < mc c → mR κ' (sd + 5 + 5 * c) k = mR κ (sd + 5 + 5 * c) k := fun c k a b => e1.R (Or.inl ⟨c, a, Or.inr (Or.inl ⟨rfl, b⟩)⟩)
  have gh : ∀ c k, c < n → k < hc c → mI κ' (sd + 6 + 5 * c) k = mI κ (sd + 6 + 5 * c) k ∧ mI κ' (sd + 7 + 5 * c) k = mI κ (sd + 7 + 5 * c) k ∧ mI κ' (sd + 8 + 5 * c) k = mI κ (sd + 8 + 5 * c) k := fun c k a b => ⟨e1.I (Or.inl ⟨c, a, Or.inr (Or.inr ⟨Or.inl rfl, b⟩)⟩), e1.I (Or.inl ⟨c, a, Or.inr (Or.inr ⟨Or.inr (Or.inl rfl), b⟩)⟩), e1.I (Or.inl ⟨c, a, Or.inr (Or.inr ⟨Or.inr (Or.inr rfl), b⟩)⟩)⟩
  have gn : ∀ j, j < nw → mJ κ' (sd + 3) j = mJ κ (sd + 3) j ∧ mJ ρ' 1304 (1600 + j) = mJ ρ 1304 (1600 + j) := fun j hj => ⟨e1.J (Or.inr (Or.inr ⟨rfl, hj⟩)), e2.J (Or.inr ⟨rfl, by omega, by omega⟩)⟩
  have rc : ∀ a c, c < n → 1284 ≤ a → a ≤ 1286 → mI ρ' a (13 + c) = mI ρ a (13 + c) ∧ mJ ρ' a (13 + c) = mJ ρ a (13 + c) := fun a c x y z => by
    have := e2 a (13 + c) (Or.inl ⟨c, x, Or.inl ⟨y, z, rfl⟩⟩); exact ⟨this.1, this.2.1⟩
  have rm : ∀ a c m, c < n → m < mc c → 1289 ≤ a → a ≤ 1300 → mI ρ' a (16 * (13 + c) + m) = mI ρ a (16 * (13 + c) + m) ∧ mJ ρ' a (16 * (13 + c) + m) = mJ ρ a (16 * (13 + c) + m) := fun a c m x y z w => by
    have := e2 a (16 * (13 + c) + m) (Or.inl ⟨c, x, Or.inr (Or.inl ⟨z, w, m, y, rfl⟩)⟩); exact ⟨this.1, this.2.1⟩
  have rh : ∀ a c m, c < n → m < hc c → 1301 ≤ a → a ≤ 1303 → mI ρ' a (4 * (13 + c) + m) = mI ρ a (4 * (13 + c) + m) := fun a c m x y z w => e2.I (Or.inl ⟨c, x, Or.inr (Or.inr ⟨z, w, m, y, rfl⟩)⟩)
  refine ⟨fun c hcn => ?_, h2, h3, h4⟩
  obtain ⟨a1, a2, a3, a4⟩ := h1 c hcn
  have l := h2.2 c hcn
  refine ⟨?_, ?_, fun m m1 m2 => ?_, fun q hq => ?_⟩
  · unfold DCls
    rw [(gk c 0 hcn (by decide)).2, (gk c 1 hcn (by decide)).1, (gk c 2 hcn (by decide)).1, (gk c 3 hcn (by decide)).1, (rc 1284 c hcn (by decide) (by decide)).2, (rc 1285 c hcn (by decide) (by decide)).1, (rc 1286 c hcn (by decide) (by decide)).1]
    exact a1
  · unfold DHei
    rw [(rc 1285 c hcn (by decide) (by decide)).1, (rc 1286 c hcn (by decide) (by decide)).1]
    rcases a2 with b | ⟨p, p1, p2, p3, p4, p5, p6⟩
    · exact Or.inl b
    · refine Or.inr ⟨p, p1, p2, p3, p4, ?_, fun m hm => ?_⟩
      · rw [(rc 1286 p (by omega) (by decide) (by decide)).1]; exact p5
      · have hm2 : m < mc c := by omega
        rw [gm c m hcn hm2, gm p m (by omega) hm, (rm 1289 c m hcn hm2 (by decide) (by decide)).2, (rm 1289 p m (by omega) hm (by decide) (by decide)).2, (rm 1290 c m hcn hm2 (by decide) (by decide)).1, (rm 1290 p m (by omega) hm (by decide) (by decide)).1, (rm 1292 c m hcn hm2 (by decide) (by decide)).1, (rm 1292 p m (by omega) hm (by decide) (by decide)).1, (rm 1293 c m hcn hm2 (by decide) (by decide)).1, (rm 1293 p m (by omega) hm (by decide) (by decide)).1, (rm 1294 c m hcn hm2 (by decide) (by decide)).1, (rm 1294 p m (by omega) hm (by decide) (by decide)).1, (rm 1296 c m hcn hm2 (by decide) (by decide)).1, (rm 1296 p m (by omega) hm (by decide) (by decide)).1]
        exact p6 m hm
  · obtain ⟨b1, b2, b3, b4⟩ := a3 m m1 m2
    have lt := h2.lt hcn m1 m2
    have gx : ∀ j, mI κ' (sd + 64 + tb c + (m - ow c)) j = mI κ (sd + 64 + tb c + (m - ow c)) j ∧ mJ κ' (sd + 64 + tb c + (m - ow c)) j = mJ κ (sd + 64 + tb c + (m - ow c)) j := fun j => by
      have := e1 (sd + 64 + tb c + (m - ow c)) j (Or.inr (Or.inl ⟨by omega, by omega⟩)); exact ⟨this.1, this.2.1⟩
    refine ⟨?_, ?_, ?_, b4.fr gx (fun a x y => rm a c m hcn m2 x y) gn⟩
    · rw [gm c m hcn m2]; exact b1
    · rw [(gx 1).1, (rm 1296 c m hcn m2 (by decide) (by decide)).1]; exact b2
    · rw [(gx 0).2, (rm 1289 c m hcn m2 (by decide) (by decide)).2]; exact b3
  · obtain ⟨b1, ⟨m, b2, b3, b4, b5⟩, b6⟩ := a4 q hq
    refine ⟨?_, ⟨m, b2, ?_, ?_, ?_⟩, ?_⟩
    · rw [(gh c q hcn hq).1, rh 1301 c q hcn hq (by decide) (by decide)]; exact b1
    · rw [(gh c q hcn hq).2.1]; exact b3
    · rw [rh 1302 c q hcn hq (by decide) (by decide)]; exact b4
    · rw [(rm 1290 c m hcn b2 (by decide) (by decide)).1]; exact b5
    · rw [(gh c q hcn hq).2.2, rh 1303 c q hcn hq (by decide) (by decide)]; exact b6
abbrev dpar (ρ : Mem) : Nat → Int32 := fun c => mI ρ 1285 (13 + c)
theorem DB.par (h : DB sd n nw mc rt hc ow tb κ ρ) : ParW (dpar ρ) n := by
  intro c hcn
  rcases (h.1 c hcn).2.1 with ⟨e, -⟩ | ⟨p, hp, e, -⟩
  · exact Or.inl e
  · exact Or.inr ⟨p, hp, e⟩
/-- the owner of a member -/
theorem DB.own (h : DB sd n nw mc rt hc ow tb κ ρ) : ∀ c, c < n → ∀ m, m < mc c → ∃ o, o ≤ c ∧ ow o ≤ m ∧ m < mc o ∧ isa (dpar ρ) c o = true ∧ mR κ (sd + 5 + 5 * c) m = sd + 64 + tb o + (m - ow o) ∧ mJ ρ 1289 (16 * (13 + c) + m) = mJ ρ 1289 (16 * (13 + o) + m) ∧ mI ρ 1290 (16 * (13 + c) + m) = mI ρ 1290 (16 * (13 + o) + m) ∧ mI ρ 1292 (16 * (13 + c) + m) = mI ρ 1292 (16 * (13 + o) + m) ∧ mI ρ 1293 (16 * (13 + c) + m) = mI ρ 1293 (16 * (13 + o) + m) ∧ mI ρ 1294 (16 * (13 + c) + m) = mI ρ 1294 (16 * (13 + o) + m) ∧ mI ρ 1296 (16 * (13 + c) + m) = mI ρ 1296 (16 * (13 + o) + m) := by
  intro c
  induction c using Nat.strongRecOn with
  | _ c ih =>
    intro hcn m hm
    by_cases ho : ow c ≤ m
    · exact ⟨c, Nat.le_refl _, ho, hm, isa_self _ _, ((h.1 c hcn).2.2.1 m ho hm).1, rfl, rfl, rfl, rfl, rfl, rfl⟩
    · rcases (h.1 c hcn).2.1 with ⟨-, -, e⟩ | ⟨p, p1, p2, p3, p4, p5, p6⟩
      · omega
      · obtain ⟨o, o1, o2, o3, o4, o5, o6, o7, o8, o9, o10, o11⟩ := ih p p1 (by omega) m (by omega)
        obtain ⟨q1, q2, q3, q4, q5, q6, q7⟩ := p6 m (by omega)
        refine ⟨o, by omega, o2, o3, ?_, q1.trans o5, q2.trans o6, q3.trans o7, q4.trans o8, q5.trans o9, q6.trans o10, q7.trans o11⟩
        rw [isa_up h.par h.2.2.1 hcn p1 p2 (by omega)]; exact o4
/-- a member's word, sort, place -/
theorem DB.mem (h : DB sd n nw mc rt hc ow tb κ ρ) {c m : Nat} (hcn : c < n) (hm : m < mc c) : (sd + 64 ≤ mR κ (sd + 5 + 5 * c) m ∧ mR κ (sd + 5 + 5 * c) m < sd + 64 + tb n) ∧ WdR (mJ κ (mR κ (sd + 5 + 5 * c) m) 0) (mJ ρ 1289 (16 * (13 + c) + m)) ∧ ∃ kd, kd ≤ 5 ∧ mI κ (mR κ (sd + 5 + 5 * c) m) 2 = nI kd ∧ mI ρ 1290 (16 * (13 + c) + m) = nI kd := by
  obtain ⟨o, o1, o2, o3, o4, o5, o6, o7, o8, o9, o10, o11⟩ := h.own c hcn m hm
  obtain ⟨b1, b2, b3, kd, f, w, b4, -⟩ := (h.1 o (by omega)).2.2.1 m o2 o3
  have := h.2.1.lt (show o < n by omega) o2 o3
  rw [o5, o6, o7]
  exact ⟨⟨by omega, by omega⟩, b3, kd, b4⟩
end DRX
