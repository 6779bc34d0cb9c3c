section INSALL
variable {G : Lay} {nn sc n r0 r1 w : Nat} {mc rt hc K N N1 us : Nat → Nat} {κ κ' κ0 ρ ρ' ρ0 κ1 ρ1 : Mem} {u k f : Nat} {l L : List Nat} {st : Nat → Int32} {C : Int32 → Int32 → Int32}
theorem c_firstUn (hG : Ly G) (hC : StC κ) (hu : u < 4) (oc : OrdC κ u l) (hll : l.length ≤ 60) (hl : ∀ k, k ∈ l → k < 60) {s : Int32} {i : Nat} (hi : i < l.length) (h1 : mI κ (537 + 184 * u + 3 * l.getD i 0) 1 = s ∧ mI κ (537 + 184 * u + 3 * l.getD i 0) 9 = 0) (h2 : ∀ j, j < i → ¬ (mI κ (537 + 184 * u + 3 * l.getD j 0) 1 = s ∧ mI κ (537 + 184 * u + 3 * l.getD j 0) 9 = 0)) {Q : Nat → Mem → Prop} (q : Q (537 + 184 * u + 3 * l.getD i 0) (mg κ ρ1)) : X_X10_firstUnwritten G Q 1269 s (mg κ ρ1) := by
  have hL := hG.1
  simp only [X_X10_firstUnwritten, X_X10_firstUnwritten_0, X_X10_firstUnwritten_2]
  refine Lw.at i (fun K' j hj hk' => ?_) (fun K' => ?_)
  · have hjl : j < l.length := by omega
    have hkl := hl _ (getD_mem hjl)
    have oci := oc.2 j hjl
    have ocn := oc.1
    simp (disch := omega) only [X_X10_firstUnwritten_2_s, X_X10_firstUnwritten_42, mI_c, mR_c, hL.1, hL.2.2, hC.1, lT, lF, tT, tF, eF, pF, zT, m1F, vT, cI, true_and, and_true, true_implies, false_implies, not_false_eq_true, not_true_eq_false, forall_eq, implies_true, ocn, oci, nI_1]
    exact ⟨fun e => brF (fun e2 => h2 j hj ⟨e, e2⟩) hk', fun _ => hk'⟩
  · have hkl := hl _ (getD_mem hi)
    have oci := oc.2 i hi
    have ocn := oc.1
    simp (disch := omega) only [X_X10_firstUnwritten_2_s, X_X10_firstUnwritten_42, mI_c, mR_c, hL.1, hL.2.2, hC.1, lT, lF, tT, tF, eF, pF, zT, m1F, vT, cI, true_and, and_true, true_implies, false_implies, not_false_eq_true, not_true_eq_false, forall_eq, implies_true, ocn, oci, nI_1, h1.1, h1.2]
    exact q
theorem m_lastUn (hM : LyM G) (hm : StM ρ) (hu : u < 4) (om : OrdM ρ u L) (hLl : L.length ≤ 60) (hL : ∀ k, k ∈ L → k < 60) {i : Nat} (hi : i < L.length) (h1 : mI ρ 1335 (60 * u + L.getD i 0) = 0) (h2 : ∀ j, j < i → ¬ mI ρ 1335 (60 * u + L.getD j 0) = 0) {Q : Int32 → Mem → Prop} (q : Q 0 (mg κ1 (endM ρ (60 * u + L.getD i 0) 4))) : X_X12_insertAll_155 G Q 1282 (-1) (nI L.length - 1) (mg κ1 ρ) := by
  unfold X_X12_insertAll_155
  have d0 : nI 0 + (-1) = -1 := by decide
  refine Lw.nat L.length (fun d x => ∃ y, x = (y, nI (L.length - d) + (-1), mg κ1 ρ) ∧ (y = -1 ∧ (∀ j, L.length - d ≤ j → j < L.length → ¬ mI ρ 1335 (60 * u + L.getD j 0) = 0) ∨ ∃ j, L.length - d ≤ j ∧ j < L.length ∧ y = nI (60 * u + L.getD j 0) ∧ mI ρ 1335 (60 * u + L.getD j 0) = 0 ∧ ∀ j', L.length - d ≤ j' → j' < j → ¬ mI ρ 1335 (60 * u + L.getD j' 0) = 0)) ?_ 0 (by omega) _ ⟨-1, by rw [Nat.sub_zero, d1I (by omega), s1I (by omega)], Or.inl ⟨rfl, fun j h1 h2 => by omega⟩⟩
  rintro K' d x hd ⟨y, rfl, hy⟩ hk'
  by_cases hlt : d < L.length
  · have hjl : L.length - d - 1 < L.length := by omega
    have hkl := hL _ (getD_mem hjl)
    have omi := om.2 _ hjl
    rw [d1I (by omega)]
    simp (disch := omega) only [X_X12_insertAll_155_s, X_X12_insertAll_186, mI_m, mR_m, hM.1, hM.2, hm.1, hm.2, lT, lF, tT, tF, eF, pF, zT, m1F, vT, cI, true_and, and_true, true_implies, false_implies, not_false_eq_true, not_true_eq_false, forall_eq, implies_true, omi]
    have e1 : L.length - (d + 1) = L.length - d - 1 := by omega
    refine ⟨fun w0 => hk' _ hlt ⟨_, by rw [e1], Or.inr ⟨L.length - d - 1, by omega, hjl, rfl, w0, fun j' a1 a2 => by omega⟩⟩, fun w0 => hk' _ hlt ⟨_, by rw [e1], ?_⟩⟩
    rcases hy with ⟨b1, b2⟩ | ⟨j, b1, b2, b3, b4, b5⟩
    · refine Or.inl ⟨b1, fun j a1 a2 => ?_⟩
      by_cases e : j = L.length - d - 1
      · rw [e]; exact w0
      · exact b2 j (by omega) a2
    · refine Or.inr ⟨j, by omega, b2, b3, b4, fun j' a1 a2 => ?_⟩
      by_cases e : j' = L.length - d - 1
      · rw [e]; exact w0
      · exact b5 j' (by omega) a2
  · obtain rfl : d = L.length := by omega
    rw [Nat.sub_self, d0]
    have hj : y = nI (60 * u + L.getD i 0) := by
      rcases hy with ⟨b1, b2⟩ | ⟨j, b1, b2, b3, b4, b5⟩
      · exact absurd h1 (b2 i (by omega) hi)
      · have : j = i := by
          by_cases h : j < i
          · exact absurd b4 (h2 j h)
          · by_cases h' : i < j
            · exact absurd h1 (b5 i (by omega) h')
            · omega
        rw [b3, this]
    rw [hj]
    have hkl := hL _ (getD_mem hi)
    refine brT (by decide) ⟨hM.1, ?_⟩
    exact m_ends hM hm (by omega) (by decide) ⟨bz0, q⟩
theorem c_countIn (hG : Ly G) (hC : StC κ) (hu : u < 4) (oc : OrdC κ u l) (hll : l.length ≤ 60) (hl : ∀ k, k ∈ l → k < 60) {s : Int32} {p : Nat → Bool} (hp : ∀ k, k ∈ l → (p k = true ↔ mI κ (537 + 184 * u + 3 * k) 1 = s)) {Q : Int32 → Mem → Prop} (q : Q (nI (l.filter p).length) (mg κ ρ1)) : X_X10_countIn G Q 1269 s (mg κ ρ1) := by
  have hL := hG.1
  simp only [X_X10_countIn, X_X10_countIn_0, X_X10_countIn_4]
  refine Lw.nat l.length (fun i x => x = (nI (fpos p l i), nI i, mg κ ρ1)) ?_ 0 (by omega) _ (by rw [fpos_0]; rfl)
  rintro K' i x hi rfl hk'
  by_cases hlt : i < l.length
  · have hm := getD_mem hlt
    have hkl := hl _ hm
    have oci := oc.2 i hlt
    have ocn := oc.1
    have hpi := hp _ hm
    simp (disch := omega) only [X_X10_countIn_4_s, X_X10_countIn_28, mI_c, mR_c, hL.1, hL.2.2, hC.1, lT, lF, tT, tF, eF, pF, zT, m1F, vT, cI, true_and, and_true, true_implies, false_implies, not_false_eq_true, not_true_eq_false, forall_eq, implies_true, ocn, oci, nI_1]
    refine ⟨fun e => hk' _ hlt ?_, fun e => hk' _ hlt ?_⟩
    · rw [(fpos_t l i hlt (hpi.mpr e)).1]
    · rw [fpos_f l i hlt (fun h => e (hpi.mp h))]
  · obtain rfl : i = l.length := by omega
    simp (disch := omega) only [X_X10_countIn_4_s, mI_c, hL.1, lT, lF, tT, tF, eF, pF, zT, m1F, vT, cI, true_and, and_true, true_implies, false_implies, not_false_eq_true, not_true_eq_false, forall_eq, implies_true, oc.1]
    rw [fpos_end]; exact q
/-- all noted as not inserted, nothing put off -/
theorem m_zeroIns (hM : LyM G) (hm : StM ρ) {Q : Int32 → Mem → Prop} (q : X_X12_insertAll_57 G Q 1282 (mI ρ 1282 75) (mg κ1 (sF (sF ρ 1335 0 240 (fun _ => 0)) 1336 0 3840 (fun _ => 0)))) : X_X12_insertAll_10 G Q 1282 0 (mg κ1 ρ) := by
  have n240 : (240 : Int32) = nI 240 := rfl
  have n3840 : (3840 : Int32) = nI 3840 := rfl
  unfold X_X12_insertAll_10
  refine Lw.nat 240 (fun i x => x = (nI i, mg κ1 (sF ρ 1335 0 i (fun _ => 0)))) ?_ 0 (by omega) _ (by rw [sF_0]; rfl)
  rintro K' i x hi rfl hk'
  have hmi : StM (sF ρ 1335 0 i (fun _ => 0)) := hm.wF _ _ _ _
  by_cases hlt : i < 240
  · simp (disch := omega) only [X_X12_insertAll_10_s, n240, mI_m, mR_m, sI_m, hM.1, hM.2, hmi.1, hmi.2, lT, lF, tT, tF, eF, pF, zT, m1F, vT, cI, true_and, and_true, true_implies, false_implies, not_false_eq_true, not_true_eq_false, forall_eq, implies_true, narb0, nI_1]
    refine hk' _ hlt ?_
    rw [sF_st (by omega) rfl]
  · obtain rfl : i = 240 := by omega
    refine brT (by decide) ?_
    unfold X_X12_insertAll_32
    refine Lw.nat 3840 (fun i x => x = (nI i, mg κ1 (sF (sF ρ 1335 0 240 (fun _ => 0)) 1336 0 i (fun _ => 0)))) ?_ 0 (by omega) _ (by rw [sF_0]; rfl)
    rintro K' i x hi rfl hk'
    have hmj : StM (sF (sF ρ 1335 0 240 (fun _ => 0)) 1336 0 i (fun _ => 0)) := hmi.wF _ _ _ _
    by_cases hlt : i < 3840
    · simp (disch := omega) only [X_X12_insertAll_32_s, n3840, mI_m, mR_m, sI_m, hM.1, hM.2, hmj.1, hmj.2, lT, lF, tT, tF, eF, pF, zT, m1F, vT, cI, true_and, and_true, true_implies, false_implies, not_false_eq_true, not_true_eq_false, forall_eq, implies_true, narb0, nI_1]
      refine hk' _ hlt ?_
      rw [sF_st (by omega) rfl]
    · obtain rfl : i = 3840 := by omega
      simp (disch := omega) only [X_X12_insertAll_32_s, n3840, mI_m, hM.1, lT, lF, tT, tF, eF, pF, zT, m1F, vT, cI, true_and, and_true, true_implies, false_implies, not_false_eq_true, not_true_eq_false, forall_eq, implies_true, sF_cl]
      exact q
def ofB (ρ : Mem) (p m : Nat) : Bool := decide (mI ρ 1336 (16 * p + m) ≠ 0)
/-- how far the insertions are -/
def InsS (us : Nat → Nat) (u : Nat) (st : Nat → Int32) (ρ0 : Mem) (r1 r0 : Nat) (κ ρ : Mem) : Prop :=
  (∀ k, k < us u → st k = 2 → mI κ (537 + 184 * u + 3 * k) 9 = mI ρ 1335 (60 * u + k) ∧ mI κ (537 + 184 * u + 3 * k) 10 = nI (bitsN (ofB ρ (60 * u + k)) 16) ∧ (mI ρ 1335 (60 * u + k) = 0 ∧ (∀ m, m < 16 → mI ρ 1336 (16 * (60 * u + k) + m) = 0) ∧ (∀ r, r < r0 → ¬ (mI ρ 1305 r = mI ρ0 1320 (60 * u + k) ∧ mI ρ 1306 r = mI ρ0 1321 (60 * u + k))) ∨ mI ρ 1335 (60 * u + k) = 1 ∧ ∃ r, r < r0 ∧ mI ρ 1305 r = mI ρ0 1320 (60 * u + k) ∧ mI ρ 1306 r = mI ρ0 1321 (60 * u + k))) ∧
  (∀ k, k < us u → st k ≠ 2 → mI κ (537 + 184 * u + 3 * k) 9 = 0 ∧ mI κ (537 + 184 * u + 3 * k) 10 = 0) ∧
  (∀ r, r < r0 → (∃ r', r' < r1 ∧ mI ρ 1305 r = mI ρ0 1305 r' ∧ mI ρ 1306 r = mI ρ0 1306 r') ∨ newK us ρ0 u (mI ρ 1305 r) (mI ρ 1306 r))
theorem InsS.step (h : InsS us u st ρ0 r1 r0 κ ρ) (hu : u < 4) (h60 : us u ≤ 60) (hk : k < us u) (sk : st k = 2) (s0 : mI ρ0 1319 (60 * u + k) = 2) (uq : ∀ a b, a < us u → b < us u → mI ρ0 1320 (60 * u + a) = mI ρ0 1320 (60 * u + b) → mI ρ0 1321 (60 * u + a) = mI ρ0 1321 (60 * u + b) → a = b) (fC : Eqv (fun a j => inC u k a j ∧ ¬ (a = 537 + 184 * u + 3 * k ∧ j = 10)) κ κ') (fM : Eqv (inM (60 * u + k)) ρ ρ') {wb : Nat → Bool} (e10 : mI κ' (537 + 184 * u + 3 * k) 10 = nI (bitsN wb 16)) (e9 : mI κ' (537 + 184 * u + 3 * k) 9 = 1) (e35 : mI ρ' 1335 (60 * u + k) = 1) (e36 : ∀ m, m < 16 → mI ρ' 1336 (16 * (60 * u + k) + m) = if wb m = true then 1 else 0) (eo : ∀ r, r < r0 → mI ρ' 1305 r = mI ρ 1305 r ∧ mI ρ' 1306 r = mI ρ 1306 r) (e5 : mI ρ' 1305 r0 = mI ρ0 1320 (60 * u + k)) (e6 : mI ρ' 1306 r0 = mI ρ0 1321 (60 * u + k)) : InsS us u st ρ0 r1 (r0 + 1) κ' ρ' := by
  obtain ⟨h1, h2, h3⟩ := h
  refine ⟨fun j hj sj => ?_, fun j hj sj => ?_, fun r hr => ?_⟩
  · by_cases e : j = k
    · subst e
      refine ⟨by rw [e9, e35], ?_, Or.inr ⟨e35, r0, by omega, e5, e6⟩⟩
      rw [e10]
      refine congrArg nI (bitsN_cg 16 (fun m hm => ?_))
      unfold ofB
      rw [e36 m hm]
      cases wb m <;> decide
    · obtain ⟨a1, a2, a3⟩ := h1 j hj sj
      have c9 : ∀ s, s = 9 ∨ s = 10 → mI κ' (537 + 184 * u + 3 * j) s = mI κ (537 + 184 * u + 3 * j) s := fun s hs => fC.I ⟨fun h => by omega, fun h => by omega⟩
      have m35 : mI ρ' 1335 (60 * u + j) = mI ρ 1335 (60 * u + j) := fM.I (fun h => by omega)
      have m36 : ∀ m, m < 16 → mI ρ' 1336 (16 * (60 * u + j) + m) = mI ρ 1336 (16 * (60 * u + j) + m) := fun m hm => fM.I (fun h => by omega)
      rw [c9 9 (Or.inl rfl), c9 10 (Or.inr rfl), m35]
      refine ⟨a1, ?_, ?_⟩
      · rw [a2]
        refine congrArg nI (bitsN_cg 16 (fun m hm => ?_))
        unfold ofB
        rw [m36 m hm]
      · rcases a3 with ⟨b1, b2, b3⟩ | ⟨b1, r, b2, b3, b4⟩
        · refine Or.inl ⟨b1, fun m hm => by rw [m36 m hm]; exact b2 m hm, fun r hr => ?_⟩
          by_cases er : r = r0
          · rw [er, e5, e6]
            rintro ⟨x1, x2⟩
            exact e (uq k j hk hj x1 x2).symm
          · rw [(eo r (by omega)).1, (eo r (by omega)).2]; exact b3 r (by omega)
        · refine Or.inr ⟨b1, r, by omega, ?_, ?_⟩
          · rw [(eo r b2).1]; exact b3
          · rw [(eo r b2).2]; exact b4
  · have e : j ≠ k := fun e => sj (by rw [e]; exact sk)
    have c9 : ∀ s, s = 9 ∨ s = 10 → mI κ' (537 + 184 * u + 3 * j) s = mI κ (537 + 184 * u + 3 * j) s := fun s hs => fC.I ⟨fun h => by omega, fun h => by omega⟩
    rw [c9 9 (Or.inl rfl), c9 10 (Or.inr rfl)]
    exact h2 j hj sj
  · by_cases er : r = r0
    · rw [er]
      exact Or.inr ⟨k, hk, s0, e5.symm, e6.symm⟩
    · rw [(eo r (by omega)).1, (eo r (by omega)).2]; exact h3 r (by omega)
theorem cntB_dec {p p' : Nat → Bool} {j : Nat} (h1 : p j = true) (h2 : p' j = false) (h3 : ∀ i, i ≠ j → p' i = p i) : ∀ n, j < n → cntB p n = cntB p' n + 1 := by
  intro n
  induction n with
  | zero => intro h; omega
  | succ n ih =>
    intro h
    show cntB p n + (if p n = true then 1 else 0) = cntB p' n + (if p' n = true then 1 else 0) + 1
    by_cases e : j = n
    · subst e
      rw [if_pos h1, if_neg (by rw [h2]; decide), cntB_cg j (fun m hm => h3 m (by omega))]
    · rw [ih (by omega), h3 n (by omega)]; omega
def cuB (st : Nat → Int32) (ρ : Mem) (u k : Nat) : Bool := decide (st k = 2) && decide (mI ρ 1335 (60 * u + k) = 0)
theorem Mid.c10 (h : Mid n mc rt K C u κ0 ρ0 N r0 κ ρ) (hu : u < 4) (hk : k < 60) (v : Int32) : Mid n mc rt K C u κ0 ρ0 N r0 (sI κ (537 + 184 * u + 3 * k) 10 v) ρ := by
  obtain ⟨⟨h1, h2⟩, h3, h4, h5, h6, h7⟩ := h
  exact ⟨⟨h1.wI _ _ _, h2⟩, h3.sI (fun h => h (Or.inr (Or.inr (Or.inr ⟨k, hk, rfl, Or.inr rfl⟩)))) _, h4, h5.fr (Eqv.wI (by simp only [rC]; omega) _) Eqv.rf, h6, h7⟩
end INSALL
