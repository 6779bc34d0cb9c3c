/-! walking a list and the list of some of it side by side -/
section WALKL
variable {rk : Nat → Nat} {sel sel' p : Nat → Bool} {l : List Nat} {i n : Nat}
theorem ordN_cg : ∀ n, (∀ k, k < n → sel k = sel' k) → ordN rk sel n = ordN rk sel' n := by
  intro n
  induction n with
  | zero => intro _; rfl
  | succ n ih =>
    intro h
    show (if sel n = true then insR rk n (ordN rk sel n) else ordN rk sel n) = if sel' n = true then insR rk n (ordN rk sel' n) else ordN rk sel' n
    rw [ih (fun k hk => h k (by omega)), h n (by omega)]
def fpos (p : Nat → Bool) (l : List Nat) (i : Nat) : Nat := ((l.take i).filter p).length
theorem fpos_0 : fpos p l 0 = 0 := by
  unfold fpos
  rw [List.take_zero]; rfl
theorem fpos_end : fpos p l l.length = (l.filter p).length := by
  unfold fpos
  rw [List.take_length]
theorem fpos_t : ∀ (l : List Nat) (i : Nat), i < l.length → p (l.getD i 0) = true → fpos p l (i + 1) = fpos p l i + 1 ∧ fpos p l i < (l.filter p).length ∧ (l.filter p).getD (fpos p l i) 0 = l.getD i 0 := by
  intro l
  induction l with
  | nil => intro i h; cases h
  | cons y l ih =>
    intro i hi hp
    cases i with
    | zero =>
      have hp : p y = true := hp
      unfold fpos
      rw [List.filter_cons_of_pos hp]
      simp only [List.take_succ_cons, List.take_zero, List.filter_cons_of_pos hp, List.filter_nil, List.length_cons, List.length_nil]
      exact ⟨by trivial, by omega, by rfl⟩
    | succ i =>
      have hi' : i < l.length := by rw [List.length_cons] at hi; omega
      obtain ⟨a1, a2, a3⟩ := ih i hi' hp
      unfold fpos at a1 a2 a3 ⊢
      rw [List.take_succ_cons, List.take_succ_cons]
      by_cases hy : p y = true
      · rw [List.filter_cons_of_pos hy, List.filter_cons_of_pos hy, List.filter_cons_of_pos hy, List.length_cons, List.length_cons, List.length_cons]
        exact ⟨by omega, by omega, a3⟩
      · rw [List.filter_cons_of_neg hy, List.filter_cons_of_neg hy, List.filter_cons_of_neg hy]
        exact ⟨a1, a2, a3⟩
theorem fpos_f : ∀ (l : List Nat) (i : Nat), i < l.length → ¬ p (l.getD i 0) = true → fpos p l (i + 1) = fpos p l i := by
  intro l
  induction l with
  | nil => intro i h; cases h
  | cons y l ih =>
    intro i hi hp
    cases i with
    | zero =>
      have hp : ¬ p y = true := hp
      unfold fpos
      simp only [List.take_succ_cons, List.take_zero, List.filter_cons_of_neg hp]
    | succ i =>
      have hi' : i < l.length := by rw [List.length_cons] at hi; omega
      have a1 := ih i hi' hp
      unfold fpos at a1 ⊢
      rw [List.take_succ_cons, List.take_succ_cons]
      by_cases hy : p y = true
      · rw [List.filter_cons_of_pos hy, List.filter_cons_of_pos hy, List.length_cons, List.length_cons, a1]
      · rw [List.filter_cons_of_neg hy, List.filter_cons_of_neg hy, a1]
theorem getD_mem {l : List Nat} {j : Nat} (h : j < l.length) : l.getD j 0 ∈ l := by
  rw [List.getD_eq_getElem?_getD, List.getElem?_eq_getElem h]; exact List.getElem_mem _
theorem ordN_cnt (h : ∀ a b, a < n → b < n → sel a = true → sel b = true → rk a = rk b → a = b) : (ordN rk sel n).length = cntB sel n := by
  induction n with
  | zero => rfl
  | succ n ih =>
    have h' : ∀ a b, a < n → b < n → sel a = true → sel b = true → rk a = rk b → a = b := fun a b ha hb => h a b (by omega) (by omega)
    show (if sel n = true then insR rk n (ordN rk sel n) else ordN rk sel n).length = cntB sel n + if sel n = true then 1 else 0
    by_cases e : sel n = true
    · rw [if_pos e, if_pos e, len_ins (ordN_srt h'), ih h']
    · rw [if_neg e, if_neg e, ih h', Nat.add_zero]
end WALKL
/-! the order of a unit's things while it is written -/
def sAll (st : Nat → Int32) (k : Nat) : Bool := decide (st k = 1 ∨ st k = 2 ∨ st k = 3)
def nwB (st : Nat → Int32) (k : Nat) : Bool := decide (st k = 2)
def ldB (st : Nat → Int32) (k : Nat) : Bool := decide (st k = 1)
def drB (st : Nat → Int32) (k : Nat) : Bool := decide (st k = 3)
def nlB (st : Nat → Int32) (k : Nat) : Bool := decide (st k = 2 ∨ st k = 1)
def RkOK (ρ : Mem) (u t : Nat) (st : Nat → Int32) (rk : Nat → Nat) : Prop := (∀ a b, a < t → b < t → sAll st a = true → sAll st b = true → (ahd ρ (60 * u + a) (60 * u + b) ↔ rk a < rk b)) ∧ ∀ a b, a < t → b < t → sAll st a = true → sAll st b = true → rk a = rk b → a = b
def OrdC (κ : Mem) (u : Nat) (l : List Nat) : Prop := mI κ 1269 3 = nI l.length ∧ ∀ i, i < l.length → mR κ 1270 i = 537 + 184 * u + 3 * l.getD i 0
def OrdM (ρ : Mem) (u : Nat) (l : List Nat) : Prop := mI ρ 1282 75 = nI l.length ∧ ∀ i, i < l.length → mI ρ 1334 i = nI (60 * u + l.getD i 0)
section ORD5
variable {G : Lay} {nn sc n r0 : Nat} {mc rt hc K N us : Nat → Nat} {κ κ' ρ ρ' κ1 ρ1 : Mem} {u k t : Nat} {st : Nat → Int32} {rk : Nat → Nat} {l : List Nat}
theorem RkOK.fr (h : RkOK ρ u t st rk) (ht : t ≤ 60) (hu : u < 4) (e : ∀ a k, 1321 ≤ a → a ≤ 1322 → mI ρ' a k = mI ρ a k) : RkOK ρ' u t st rk := by
  refine ⟨fun a b ha hb sa sb => ?_, h.2⟩
  unfold ahd
  rw [e _ _ (by decide) (by decide), e _ _ (by decide) (by decide), e _ _ (by decide) (by decide), e _ _ (by decide) (by decide)]
  exact h.1 a b ha hb sa sb
def rkM (ρ : Mem) (u k : Nat) : Nat := 1000 * (mI ρ 1322 (60 * u + k)).toNatClampNeg + (mI ρ 1321 (60 * u + k)).toNatClampNeg
/-- a thing that may be written -/
theorem RelA.lv3 (hA : RelA nn sc n mc rt hc K N r0 us κ ρ) (hu : u < 4) (ho : mI ρ 1316 u = 1) (hk : k < us u) (hl : mI ρ 1319 (60 * u + k) = 1 ∨ mI ρ 1319 (60 * u + k) = 2 ∨ mI ρ 1319 (60 * u + k) = 3) : ∃ c f x, c < n ∧ mI ρ 1322 (60 * u + k) = nI c ∧ rt c = f ∧ f < 12 ∧ mI ρ 1320 (60 * u + k) = nI f ∧ 1 ≤ x ∧ x ≤ K f ∧ x ≤ nn ∧ mI ρ 1321 (60 * u + k) = nI x ∧ (∀ m, mc c ≤ m → m < 16 → mI ρ 1324 (16 * (60 * u + k) + m) = 0 ∧ mI ρ 1325 (16 * (60 * u + k) + m) = 0) ∧ ∀ m, m < mc c → mI ρ 1290 (16 * c + m) = 4 → mI ρ 1324 (16 * (60 * u + k) + m) = 0 ∨ ∃ x t, t < n ∧ mI ρ 1291 (16 * c + m) = nI t ∧ 1 ≤ x ∧ x ≤ K (rt t) ∧ mI ρ 1324 (16 * (60 * u + k) + m) = nI x := by
  obtain ⟨⟨hC, hm, hNu⟩, xT, xF, xS, xN, xK, xR, xU, xW, xD, xY, xZ⟩ := id hA
  obtain ⟨s, f, x, y1, y2, y3, y4, y5, y6, y7, y8, y9, y10⟩ := xZ.1 u hu ho k hk
  have hs : 1 ≤ s ∧ s ≤ 3 := by
    rcases hl with e | e | e
    · have := (eI (b := 1) (by omega) (by decide)).mp (y2.symm.trans e); omega
    · have := (eI (b := 2) (by omega) (by decide)).mp (y2.symm.trans e); omega
    · have := (eI (b := 3) (by omega) (by decide)).mp (y2.symm.trans e); omega
  obtain ⟨c, c1, c2, c3, c4, c5⟩ := y9 hs.1 hs.2
  have := (xK f y3).2.2
  exact ⟨c, f, x, c1, c2, c3, y3, y4, y5, y6, by omega, y7, c4, c5⟩
theorem RelA.rkok (hA : RelA nn sc n mc rt hc K N r0 us κ ρ) (hnn : nn ≤ 512) (hu : u < 4) (ho : mI ρ 1316 u = 1) (hst : ∀ k, k < us u → mI ρ 1319 (60 * u + k) = st k) : RkOK ρ u (us u) st (rkM ρ u) := by
  have hz := hA.2.2.2.2.2.2.2.2.2.2.2.2.1
  have h12 := hA.2.2.2.1.le
  have lv : ∀ a, a < us u → sAll st a = true → ∃ c x, c < 12 ∧ x ≤ 512 ∧ mI ρ 1322 (60 * u + a) = nI c ∧ mI ρ 1321 (60 * u + a) = nI x ∧ mI ρ 1320 (60 * u + a) = nI (rt c) ∧ rkM ρ u a = 1000 * c + x := fun a ha sa => by
    have sa := of_decide_eq_true sa
    rw [← hst a ha] at sa
    obtain ⟨c, f, x, c1, c2, c3, c4, c5, c6, c7, c8, c9, -⟩ := hA.lv3 hu ho ha sa
    refine ⟨c, x, by omega, by omega, c2, c9, by rw [c5, c3], ?_⟩
    unfold rkM
    rw [c2, c9, cI (by omega), cI (by omega)]
  refine ⟨fun a b ha hb sa sb => ?_, fun a b ha hb sa sb e => ?_⟩
  · obtain ⟨c, x, c1, c2, c3, c4, c5, c6⟩ := lv a ha sa
    obtain ⟨d, y, d1, d2, d3, d4, d5, d6⟩ := lv b hb sb
    rw [c6, d6]
    unfold ahd
    rw [c3, c4, d3, d4, tI (by omega) (by omega), eI (by omega) (by omega), lI (by omega) (by omega)]
    omega
  · obtain ⟨c, x, c1, c2, c3, c4, c5, c6⟩ := lv a ha sa
    obtain ⟨d, y, d1, d2, d3, d4, d5, d6⟩ := lv b hb sb
    rw [c6, d6] at e
    have e1 : c = d := by omega
    have e2 : x = y := by omega
    exact hz u hu ho a b ha hb (by rw [c5, d5, e1]) (by rw [c4, d4, e2])
/-- inOrder again -/
theorem m_order (hM : LyM G) (hm : StM ρ) {l2 l3 l4 : Int32} {p : Nat → Bool} (hu : u < 4) (ht : t ≤ 60) (et : mI ρ 1317 u = nI t) (hrk : RkOK ρ u t st rk) (hl : l = ordN rk (sAll st) t) (hp : ∀ k, k < t → selO ρ u l2 l3 l4 k = (sAll st k && p k)) :
    ∃ ρ', RunM0 (fun Q σ => X_X12_inOrder G Q 1282 (nI u) l2 l3 l4 σ) ρ ρ' ∧ StM ρ' ∧ Eqv (fun a k => ¬ (a = 1282 ∧ k = 75 ∨ a = 1334)) ρ ρ' ∧ OrdM ρ' u (l.filter p) := by
  have sub : ∀ a, a < t → selO ρ u l2 l3 l4 a = true → sAll st a = true := fun a ha h => by
    rw [hp a ha, Bool.and_eq_true] at h; exact h.1
  obtain ⟨g, hg, run⟩ := m_inOrder (rk := rk) hM hm hu ht et (fun a b ha hb sa sb => hrk.1 a b ha hb (sub a ha sa) (sub b hb sb)) (fun a b ha hb sa sb => hrk.2 a b ha hb (sub a ha sa) (sub b hb sb))
  have el : ordN rk (selO ρ u l2 l3 l4) t = l.filter p := by
    rw [hl, ordN_filter hrk.2]
    exact ordN_cg t hp
  rw [el] at hg run
  refine ⟨sA (sI ρ 1282 75 (nI (l.filter p).length)) 1334 g, fun κ1 Q hQ => run κ1 Q hQ, (hm.wI _ _ _).wA _ _, ?_, ?_, fun i hi => ?_⟩
  · refine (Eqv.wI (fun h => h (Or.inl ⟨rfl, rfl⟩)) _).sA (fun k h => h (Or.inr rfl))
  · rw [sA_cl (by decide), I_is]
  · rw [sA_is]; exact hg i hi
end ORD5
