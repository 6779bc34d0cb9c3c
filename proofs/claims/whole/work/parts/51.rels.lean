/-! the schema stays -/
theorem isa_cg {p p' : Nat → Int32} {n d : Nat} (h : ParW p n) (hn : n ≤ 12) (he : ∀ c, c < n → p' c = p c) : ∀ c, c < n → isa p' c d = isa p c d := by
  have h' : ParW p' n := fun c hc => by rw [he c hc]; exact h c hc
  intro c
  induction c using Nat.strongRecOn with
  | _ c ih =>
    intro hc
    by_cases hd : c = d
    · subst hd
      rw [isa_self, isa_self]
    · rcases h c hc with e | ⟨q, hq, e⟩
      · rw [isa_root e hd, isa_root ((he c hc).trans e) hd]
      · rw [isa_up h hn hc hq e hd, isa_up h' hn hc hq ((he c hc).trans e) hd]
        exact ih q hq (by omega)
def sCc (sc a k : Nat) : Prop := a = 13 ∧ k = 0 ∨ a = 1 ∧ k = 7 ∨ sc ≤ a ∧ a < sc + 256
def sM (a k : Nat) : Prop := a = 1282 ∧ k = 2 ∨ 1284 ≤ a ∧ a ≤ 1288 ∧ k < 13 ∨ 1289 ≤ a ∧ a ≤ 1300 ∧ k < 208 ∨ 1301 ≤ a ∧ a ≤ 1303 ∧ k < 52 ∨ a = 1304 ∧ k < 1600
section RS
variable {sc n : Nat} {mc rt hc : Nat → Nat} {κ κ' ρ ρ' : Mem}
theorem sM.cl (hm : Eqv sM ρ ρ') {a k : Nat} (h1 : 1284 ≤ a) (h2 : a ≤ 1288) (h3 : k < 13) : mI ρ' a k = mI ρ a k := hm.I (Or.inr (Or.inl ⟨h1, h2, h3⟩))
theorem sM.me (hm : Eqv sM ρ ρ') {a c m : Nat} (h1 : 1289 ≤ a) (h2 : a ≤ 1300) (h3 : c < 12) (h4 : m < 16) : mI ρ' a (16 * c + m) = mI ρ a (16 * c + m) := hm.I (Or.inr (Or.inr (Or.inl ⟨h1, h2, by omega⟩)))
theorem sM.ho (hm : Eqv sM ρ ρ') {a c m : Nat} (h1 : 1301 ≤ a) (h2 : a ≤ 1303) (h3 : c < 12) (h4 : m < 4) : mI ρ' a (4 * c + m) = mI ρ a (4 * c + m) := hm.I (Or.inr (Or.inr (Or.inr (Or.inl ⟨h1, h2, by omega⟩))))
theorem ownFrom.fr (hp : ParW (par ρ) n) (hn : n ≤ 12) (hm : Eqv sM ρ ρ') {c : Nat} (hc : c < n) : ownFrom mc ρ' c = ownFrom mc ρ c := by
  unfold ownFrom
  rw [sM.cl hm (by decide) (by decide) (by omega)]
theorem MemW.fr (hp : ParW (par ρ) n) (hn : n ≤ 12) (hmc : ∀ c, c < n → mc c ≤ 16) (hm : Eqv sM ρ ρ') {c m : Nat} (hc : c < n) (hl : m < mc c) (h : MemW n mc ρ c m) : MemW n mc ρ' c m := by
  have h16 := hmc c hc
  have e : ∀ a, 1289 ≤ a → a ≤ 1300 → mI ρ' a (16 * c + m) = mI ρ a (16 * c + m) := fun a h1 h2 => sM.me hm h1 h2 (by omega) (by omega)
  obtain ⟨⟨k, h1, h2, h3, ⟨f, h4, h5, h6⟩, h7⟩, o, h8, h9, h10, h11, h12⟩ := h
  refine ⟨⟨k, h1, ?_, ?_, ⟨f, h4, ?_, h6⟩, fun h4k => ?_⟩, o, h8, ?_, h10, ?_, ?_⟩
  · rw [e _ (by decide) (by decide)]; exact h2
  · rw [e _ (by decide) (by decide)]; exact h3
  · rw [e _ (by decide) (by decide)]; exact h5
  · obtain ⟨t, ht, q1, q2⟩ := h7 h4k
    refine ⟨t, ht, ?_, fun h5k => ?_⟩
    · rw [e _ (by decide) (by decide)]; exact q1
    · obtain ⟨b, hb, q3, q4⟩ := q2 h5k
      have := hmc t ht
      refine ⟨b, hb, ?_, ?_⟩
      · rw [e _ (by decide) (by decide)]; exact q3
      · rw [sM.me hm (by decide) (by decide) (by omega) (by omega)]; exact q4
  · rw [e _ (by decide) (by decide)]; exact h9
  · rw [ownFrom.fr (n := n) hp hn hm (by omega)]; exact h11
  · rw [isa_cg hp hn (fun c hc => sM.cl hm (by decide) (by decide) (by omega)) c hc]; exact h12
theorem RelS.fr (h : RelS sc n mc rt hc κ ρ) (hcc : Eqv (sCc sc) κ κ') (hm : Eqv sM ρ ρ') : RelS sc n mc rt hc κ' ρ' := by
  have hp := h.par
  obtain ⟨h1, h2, h3, h4, h5, h6, h7, h8, h9, h10, h11⟩ := h
  have c : ∀ a k, sc ≤ a → a < sc + 256 → mI κ' a k = mI κ a k := fun a k x y => hcc.I (Or.inr (Or.inr ⟨x, y⟩))
  have cR : ∀ a k, sc ≤ a → a < sc + 256 → mR κ' a k = mR κ a k := fun a k x y => hcc.R (Or.inr (Or.inr ⟨x, y⟩))
  have hmc : ∀ c, c < n → mc c ≤ 16 := fun c hc => (h7 c hc).2.2.2.2.2.1
  refine ⟨h1, ?_, ?_, ?_, ?_, h6, fun q hq => ?_, fun q hq => ?_, fun q hq m hm2 => ?_, fun q hq m hm2 => ?_, fun q hq m hm2 => ?_⟩
  · rw [hcc.R (Or.inl ⟨rfl, rfl⟩)]; exact h2
  · rw [hcc.R (Or.inr (Or.inl ⟨rfl, rfl⟩))]; exact h3
  · rw [c _ _ (by omega) (by omega)]; exact h4
  · rw [hm.I (Or.inl ⟨rfl, rfl⟩)]; exact h5
  · have x := h7 q hq
    unfold ClsR at x ⊢
    rw [c _ _ (by omega) (by omega), c _ _ (by omega) (by omega), c _ _ (by omega) (by omega), c _ _ (by omega) (by omega), c _ _ (by omega) (by omega), sM.cl hm (by decide) (by decide) (by omega), sM.cl hm (by decide) (by decide) (by omega), sM.cl hm (by decide) (by decide) (by omega), sM.cl hm (by decide) (by decide) (by omega)]
    exact x
  · rcases h8 q hq with ⟨e1, e2⟩ | ⟨p, e1, e2, e3, e4, e5, e6⟩
    · refine Or.inl ⟨?_, e2⟩
      rw [sM.cl hm (by decide) (by decide) (by omega)]; exact e1
    · refine Or.inr ⟨p, e1, ?_, e3, e4, ?_, fun m hm2 => ?_⟩
      · rw [sM.cl hm (by decide) (by decide) (by omega)]; exact e2
      · rw [sM.cl hm (by decide) (by decide) (by omega), sM.cl hm (by decide) (by decide) (by omega)]; exact e5
      · have := hmc p (by omega)
        have w : ∀ a, 1289 ≤ a → a ≤ 1300 → mI ρ' a (16 * q + m) = mI ρ a (16 * q + m) ∧ mI ρ' a (16 * p + m) = mI ρ a (16 * p + m) := fun a y z => ⟨sM.me hm y z (by omega) (by omega), sM.me hm y z (by omega) (by omega)⟩
        rw [(w 1290 (by decide) (by decide)).1, (w 1290 (by decide) (by decide)).2, (w 1291 (by decide) (by decide)).1, (w 1291 (by decide) (by decide)).2, (w 1293 (by decide) (by decide)).1, (w 1293 (by decide) (by decide)).2, (w 1294 (by decide) (by decide)).1, (w 1294 (by decide) (by decide)).2, (w 1295 (by decide) (by decide)).1, (w 1295 (by decide) (by decide)).2, (w 1296 (by decide) (by decide)).1, (w 1296 (by decide) (by decide)).2]
        exact e6 m hm2
  · have x := h9 q hq m hm2
    have := hmc q hq
    unfold MemR at x ⊢
    have w : ∀ a, 1289 ≤ a → a ≤ 1300 → mI ρ' a (16 * q + m) = mI ρ a (16 * q + m) := fun a y z => sM.me hm y z (by omega) (by omega)
    rw [cR _ _ (by omega) (by omega)]
    rw [c _ _ (by omega) (by omega), c _ _ (by omega) (by omega), c _ _ (by omega) (by omega), c _ _ (by omega) (by omega), c _ _ (by omega) (by omega), c _ _ (by omega) (by omega), w 1290 (by decide) (by decide), w 1291 (by decide) (by decide), w 1293 (by decide) (by decide), w 1294 (by decide) (by decide), w 1295 (by decide) (by decide), w 1296 (by decide) (by decide)]
    exact x
  · exact (h10 q hq m hm2).fr hp h6 hmc hm hq hm2
  · have x := h11 q hq m hm2
    have h4c := (h7 q hq).2.2.2.2.2.2.2.2
    have := hmc q hq
    obtain ⟨x1, ⟨j, x2, x3, x4, x5⟩, x6⟩ := x
    refine ⟨?_, ⟨j, x2, ?_, ?_, ?_⟩, ?_⟩
    · rw [c _ _ (by omega) (by omega), sM.ho hm (by decide) (by decide) (by omega) (by omega)]; exact x1
    · rw [c _ _ (by omega) (by omega)]; exact x3
    · rw [sM.ho hm (by decide) (by decide) (by omega) (by omega)]; exact x4
    · rw [sM.me hm (by decide) (by decide) (by omega) (by omega)]; exact x5
    · rw [c _ _ (by omega) (by omega), sM.ho hm (by decide) (by decide) (by omega) (by omega)]; exact x6
end RS
