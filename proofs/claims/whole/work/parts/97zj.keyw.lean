/-! keywords -/
def kwr : List Int64 := [53482707, 966, 94297, 62341, 10991493444, 62926, 1295, 3183828, 153, 3495124, 257745220, 22785889605, 388035333, 322179852, 1622087, 2159563, 9903559828, 3355763141, 387994757, 978, 4996, 58324, 87360793]
def kwl : List (List Nat) := [[99, 108, 97, 115, 115], [111, 102], [119, 97, 121], [111, 110, 101], [106, 111, 105, 110, 101, 100], [111, 119, 110], [116, 111], [108, 105, 115, 116], [98, 121], [109, 117, 115, 116], [111, 119, 110, 101, 100], [117, 110, 105, 113, 117, 101], [119, 104, 111, 108, 101], [115, 109, 97, 108, 108], [102, 108, 97, 103], [104, 111, 111, 107], [105, 110, 115, 101, 114, 116], [99, 104, 97, 110, 103, 101], [119, 104, 101, 114, 101], [111, 114], [97, 110, 100], [110, 111, 116], [101, 109, 112, 116, 121]]
theorem kw_rel {k : Nat} (hk : k < 23) : WdR (kwv.getD k 0) (kwr.getD k 0) := by
  have h : ∀ k, k < 23 → 1 ≤ (kwl.getD k []).length ∧ (kwl.getD k []).length ≤ 8 ∧ (∀ b ∈ kwl.getD k [], 0 < ltr b) ∧ kwv.getD k 0 = lN (e8 (kwl.getD k [])) ∧ kwr.getD k 0 = lN (e6 (kwl.getD k [])) := by decide +kernel
  exact ⟨_, h k hk⟩
def kix (x : Int64) : List Int64 → Nat → Int32
  | [], _ => -1
  | y :: l, i => if x = y then nI i else kix x l (i + 1)
theorem kix_at : ∀ k, k < 23 → kix (kwv.getD k 0) kwv 0 = nI k := by decide +kernel
theorem kix_no {x : Int64} : ∀ (l : List Int64) (i : Nat), ¬ x ∈ l → kix x l i = -1 := by
  intro l
  induction l with
  | nil => intro i _; rfl
  | cons y l ih =>
    intro i h
    unfold kix
    rw [if_neg (fun e => h (by rw [e]; exact List.mem_cons_self)), ih (i + 1) (fun e => h (List.mem_cons_of_mem _ e))]
theorem kw_get {x : Int64} (h : x ∈ kwv) : ∃ k, k < 23 ∧ x = kwv.getD k 0 := by
  obtain ⟨i, h1, h2⟩ := List.getElem_of_mem h
  refine ⟨i, h1, ?_⟩
  rw [List.getD_eq_getElem?_getD, List.getElem?_eq_getElem h1]; exact h2.symm
theorem kw_mem {k : Nat} (h : k < 23) : kwv.getD k 0 ∈ kwv := by
  rw [List.getD_eq_getElem?_getD, List.getElem?_eq_getElem (show k < kwv.length from h)]
  exact List.getElem_mem _
theorem kw_big : ∀ s, s < 256 → ∀ k, k < 23 → lN s ≠ kwv.getD k 0 := by decide +kernel
theorem kix_iff {x : Int64} {k : Nat} (hk : k < 23) : kix x kwv 0 = nI k ↔ x = kwv.getD k 0 := by
  constructor
  · intro h
    by_cases hx : x ∈ kwv
    · obtain ⟨j, hj, e⟩ := kw_get hx
      rw [e, kix_at j hj] at h
      rw [e, (eI (by omega) (by omega)).mp h]
    · rw [kix_no _ _ hx] at h
      exact absurd h.symm (mI1 (by omega))
  · intro h; rw [h]; exact kix_at k hk
/-- the code of a word -/
def wdx (B : Nat → Nat) (z p : Nat) : Int64 := lN (c8 B p (eTk B z p - p))
def wdy (B : Nat → Nat) (z p : Nat) : Int64 := lN (c6 B p (eTk B z p - p))
/-- the keyword at p: -1 none -/
def twd (B : Nat → Nat) (z p : Nat) : Int32 := if tkd B z p = 2 then kix (wdx B z p) kwv 0 else -1
def nmT (B : Nat → Nat) (z p : Nat) : Prop := tkd B z p = 2 ∧ ¬ wdx B z p ∈ kwv
def sgA (B : Nat → Nat) (z p s : Nat) : Prop := tkd B z p = 4 ∧ B p = s
def AT (B : Nat → Nat) (z p : Nat) (w : Int64) : Prop := (tkd B z p = 2 ∧ wdx B z p ∈ kwv ∧ wdx B z p = w) ∨ (tkd B z p = 4 ∧ lN (B p) = w)
def flt (B : Nat → Nat) (z p : Nat) : Int32 := if tkd B z p = 1 then 1 else 2
section TOKL
variable {G : Lay} {κ κ' ρ ρ' κ1 ρ1 : Mem} {B : Nat → Nat} {z p T i : Nat}
theorem tk_sgn (h : tkd B z p = 4) : B p < 128 := by
  unfold tkd at h
  by_cases a : z ≤ p
  · rw [if_pos a] at h; cases h
  · rw [if_neg a] at h
    by_cases b : ltt (B p) = true
    · rw [if_pos b] at h
      by_cases c : eTk B z p - p ≤ 8
      · rw [if_pos c] at h; cases h
      · rw [if_neg c] at h; cases h
    · rw [if_neg b] at h
      by_cases c : dgt (B p) = true
      · rw [if_pos c] at h
        by_cases d : eTk B z p - p ≤ 6
        · rw [if_pos d] at h; cases h
        · rw [if_neg d] at h; cases h
      · rw [if_neg c] at h
        by_cases d : sgn (B p) = true
        · have := of_decide_eq_true d; omega
        · rw [if_neg d] at h; cases h
theorem tk_lt (h : tkd B z p ≠ 0) : p < z := by
  unfold tkd at h
  by_cases a : z ≤ p
  · rw [if_pos a] at h; exact absurd rfl h
  · omega
theorem tk_0 (h : z ≤ p) : tkd B z p = 0 := if_pos h
theorem tk_no0 (h : p < z) : tkd B z p ≠ 0 := by
  unfold tkd
  rw [if_neg (by omega)]
  split
  · split <;> decide
  · split
    · split <;> decide
    · split <;> decide
theorem tk_wd (h : tkd B z p = 2) : ltt (B p) = true ∧ eTk B z p - p ≤ 8 := by
  have hp := tk_lt (B := B) (z := z) (p := p) (by omega)
  unfold tkd at h
  rw [if_neg (by omega)] at h
  by_cases b : ltt (B p) = true
  · refine ⟨b, ?_⟩
    rw [if_pos b] at h
    by_cases c : eTk B z p - p ≤ 8
    · exact c
    · rw [if_neg c] at h; cases h
  · rw [if_neg b] at h
    exfalso
    by_cases c : dgt (B p) = true
    · rw [if_pos c] at h
      by_cases d : eTk B z p - p ≤ 6
      · rw [if_pos d] at h; cases h
      · rw [if_neg d] at h; cases h
    · rw [if_neg c] at h
      by_cases d : sgn (B p) = true
      · rw [if_pos d] at h; cases h
      · rw [if_neg d] at h; cases h
theorem e8_c8 : ∀ n, e8 ((List.range n).map (fun j => B (p + j))) = c8 B p n := by
  intro n
  induction n with
  | zero => rfl
  | succ n ih =>
    unfold e8 at ih ⊢
    rw [List.range_succ, List.map_append, List.foldl_append, ih]
    rfl
theorem e6_c6 : ∀ n, e6 ((List.range n).map (fun j => B (p + j))) = c6 B p n := by
  intro n
  induction n with
  | zero => rfl
  | succ n ih =>
    unfold e6 at ih ⊢
    rw [List.range_succ, List.map_append, List.foldl_append, ih]
    rfl
/-- a word's two codes -/
theorem wd_rel (hB : ∀ k, k < z → B k < 256) (h : tkd B z p = 2) : WdR (wdx B z p) (wdy B z p) := by
  have hp := tk_lt (B := B) (z := z) (p := p) (by omega)
  obtain ⟨hl, h8⟩ := tk_wd h
  obtain ⟨t1, t2⟩ := eTk_ok (B := B) hp
  have wr : ∀ j, p ≤ j → j < eTk B z p → wrd (B j) = true := by
    unfold eTk
    rw [if_pos hl]
    obtain ⟨a1, a2, a3, a4⟩ := run_ok (p := wrd) (B := B) (z := z) (i := p + 1) (by omega)
    intro j h1 h2
    by_cases e : j = p
    · rw [e]; unfold wrd; rw [hl]; rfl
    · exact a3 j (by omega) h2
  refine ⟨(List.range (eTk B z p - p)).map (fun j => B (p + j)), by rw [List.length_map, List.length_range]; omega, by rw [List.length_map, List.length_range]; omega, fun b hb => ?_, ?_, ?_⟩
  · obtain ⟨j, hj, rfl⟩ := List.mem_map.mp hb
    have hj := List.mem_range.mp hj
    exact (wrd_ltr _ (hB _ (by omega))).mp (wr _ (by omega) (by omega))
  · rw [e8_c8]; rfl
  · rw [e6_c6]; rfl
theorem twd_k {k : Nat} (hk : k < 23) : twd B z p = nI k ↔ tkd B z p = 2 ∧ wdx B z p = kwv.getD k 0 := by
  unfold twd
  by_cases h : tkd B z p = 2
  · rw [if_pos h, kix_iff hk]; exact ⟨fun e => ⟨h, e⟩, fun e => e.2⟩
  · rw [if_neg h]; exact ⟨fun e => absurd e.symm (mI1 (by omega)), fun e => absurd e.1 h⟩
theorem twd_any : twd B z p = -1 ∨ ∃ k, k < 23 ∧ twd B z p = nI k := by
  unfold twd
  by_cases h : tkd B z p = 2
  · rw [if_pos h]
    by_cases hx : wdx B z p ∈ kwv
    · obtain ⟨k, hk, e⟩ := kw_get hx
      exact Or.inr ⟨k, hk, (kix_iff hk).mpr e⟩
    · exact Or.inl (kix_no _ _ hx)
  · rw [if_neg h]; exact Or.inl rfl
theorem twd_nm (h : nmT B z p) : twd B z p = -1 := by
  unfold twd
  rw [if_pos h.1]; exact kix_no _ _ h.2
theorem nm_twd (h : tkd B z p = 2) (h2 : twd B z p = -1) : nmT B z p := by
  refine ⟨h, fun hx => ?_⟩
  obtain ⟨k, hk, e⟩ := kw_get hx
  have := (twd_k (B := B) (z := z) (p := p) hk).mpr ⟨h, e⟩
  rw [h2] at this
  exact mI1 (by omega) this.symm
theorem AT_k {k : Nat} (hk : k < 23) : AT B z p (kwv.getD k 0) ↔ twd B z p = nI k := by
  rw [twd_k hk]
  constructor
  · rintro (⟨a, -, b⟩ | ⟨a, b⟩)
    · exact ⟨a, b⟩
    · have := tk_sgn a
      exact absurd b (kw_big _ (by omega) k hk)
  · rintro ⟨a, b⟩
    exact Or.inl ⟨a, by rw [b]; exact kw_mem hk, b⟩
theorem AT_s {s : Nat} (hs : s < 256) : AT B z p (lN s) ↔ sgA B z p s := by
  constructor
  · rintro (⟨a, b, c⟩ | ⟨a, b⟩)
    · obtain ⟨k, hk, e⟩ := kw_get b
      exact absurd (c.symm.trans e) (kw_big s hs k hk)
    · have := tk_sgn a
      exact ⟨a, (lN_eq (by omega) (by omega)).mp b⟩
  · rintro ⟨a, b⟩
    exact Or.inr ⟨a, by rw [b]⟩
theorem kw_st {x y w : Int64} (h : WdR x y) (k : Nat) (hk : k < 23) (e : w = kwr.getD k 0) : lg_cmp y w = 0 ↔ x = kwv.getD k 0 := by
  rw [lg_cmp_eq, e]; exact (h.iff (kw_rel hk)).symm
def TM (ρ : Mem) (B : Nat → Nat) (z p : Nat) : Prop := BtM ρ B z ∧ TokM ρ B z p
theorem TM.lo (h : TM ρ B z p) : ∀ k, k < z → B k < 256 := fun k hk => (h.1.2.2 k hk).2
theorem m_toldWord (hM : LyM G) (h : TM ρ B z p) {Q : Int32 → Mem → Prop} (q : Q (twd B z p) (mg κ1 ρ)) : X_X12_toldWord G Q 1282 (mg κ1 ρ) := by
  obtain ⟨g49, g50, g51, g52, g53, g54⟩ := h.2
  unfold X_X12_toldWord X_X12_toldWord_0
  rw [mI_m (by decide), mJ_m (by decide), g51]
  refine ⟨hM.1, ?_⟩
  by_cases e : tkd B z p = 2
  · refine brT (by rw [e]; rfl) ?_
    have hw := wd_rel h.lo e
    rw [g52 e]
    have hw : WdR (wdx B z p) (lN (c6 B p (eTk B z p - p))) := hw
    have tk : ∀ k, k < 23 → wdx B z p = kwv.getD k 0 → twd B z p = nI k := fun k hk a => (twd_k hk).mpr ⟨e, a⟩
    simp only [X_X12_two, X_X12_two_0, X_X12_one, X_X12_one_0]
    refine ⟨fun a => ?_, fun a0 => ?_⟩
    · have := tk 0 (by decide) ((kw_st hw 0 (by decide) (by decide +kernel)).mp a)
      rw [this] at q; exact q
    refine ⟨fun a => ?_, fun a1 => ?_⟩
    · have := tk 1 (by decide) ((kw_st hw 1 (by decide) (by decide +kernel)).mp a)
      rw [this] at q; exact q
    refine ⟨fun a => ?_, fun a2 => ?_⟩
    · have := tk 2 (by decide) ((kw_st hw 2 (by decide) (by decide +kernel)).mp a)
      rw [this] at q; exact q
    refine ⟨fun a => ?_, fun a3 => ?_⟩
    · have := tk 3 (by decide) ((kw_st hw 3 (by decide) (by decide +kernel)).mp a)
      rw [this] at q; exact q
    refine ⟨fun a => ?_, fun a4 => ?_⟩
    · have := tk 4 (by decide) ((kw_st hw 4 (by decide) (by decide +kernel)).mp a)
      rw [this] at q; exact q
    refine ⟨fun a => ?_, fun a5 => ?_⟩
    · have := tk 5 (by decide) ((kw_st hw 5 (by decide) (by decide +kernel)).mp a)
      rw [this] at q; exact q
    refine ⟨fun a => ?_, fun a6 => ?_⟩
    · have := tk 6 (by decide) ((kw_st hw 6 (by decide) (by decide +kernel)).mp a)
      rw [this] at q; exact q
    refine ⟨fun a => ?_, fun a7 => ?_⟩
    · have := tk 7 (by decide) ((kw_st hw 7 (by decide) (by decide +kernel)).mp a)
      rw [this] at q; exact q
    refine ⟨fun a => ?_, fun a8 => ?_⟩
    · have := tk 8 (by decide) ((kw_st hw 8 (by decide) (by decide +kernel)).mp a)
      rw [this] at q; exact q
    refine ⟨fun a => ?_, fun a9 => ?_⟩
    · have := tk 9 (by decide) ((kw_st hw 9 (by decide) (by decide +kernel)).mp a)
      rw [this] at q; exact q
    refine ⟨fun a => ?_, fun a10 => ?_⟩
    · have := tk 10 (by decide) ((kw_st hw 10 (by decide) (by decide +kernel)).mp a)
      rw [this] at q; exact q
    refine ⟨fun a => ?_, fun a11 => ?_⟩
    · have := tk 11 (by decide) ((kw_st hw 11 (by decide) (by decide +kernel)).mp a)
      rw [this] at q; exact q
    refine ⟨fun a => ?_, fun a12 => ?_⟩
    · have := tk 12 (by decide) ((kw_st hw 12 (by decide) (by decide +kernel)).mp a)
      rw [this] at q; exact q
    refine ⟨fun a => ?_, fun a13 => ?_⟩
    · have := tk 13 (by decide) ((kw_st hw 13 (by decide) (by decide +kernel)).mp a)
      rw [this] at q; exact q
    refine ⟨fun a => ?_, fun a14 => ?_⟩
    · have := tk 14 (by decide) ((kw_st hw 14 (by decide) (by decide +kernel)).mp a)
      rw [this] at q; exact q
    refine ⟨fun a => ?_, fun a15 => ?_⟩
    · have := tk 15 (by decide) ((kw_st hw 15 (by decide) (by decide +kernel)).mp a)
      rw [this] at q; exact q
    refine ⟨fun a => ?_, fun a16 => ?_⟩
    · have := tk 16 (by decide) ((kw_st hw 16 (by decide) (by decide +kernel)).mp a)
      rw [this] at q; exact q
    refine ⟨fun a => ?_, fun a17 => ?_⟩
    · have := tk 17 (by decide) ((kw_st hw 17 (by decide) (by decide +kernel)).mp a)
      rw [this] at q; exact q
    refine ⟨fun a => ?_, fun a18 => ?_⟩
    · have := tk 18 (by decide) ((kw_st hw 18 (by decide) (by decide +kernel)).mp a)
      rw [this] at q; exact q
    refine ⟨fun a => ?_, fun a19 => ?_⟩
    · have := tk 19 (by decide) ((kw_st hw 19 (by decide) (by decide +kernel)).mp a)
      rw [this] at q; exact q
    refine ⟨fun a => ?_, fun a20 => ?_⟩
    · have := tk 20 (by decide) ((kw_st hw 20 (by decide) (by decide +kernel)).mp a)
      rw [this] at q; exact q
    refine ⟨fun a => ?_, fun a21 => ?_⟩
    · have := tk 21 (by decide) ((kw_st hw 21 (by decide) (by decide +kernel)).mp a)
      rw [this] at q; exact q
    refine ⟨fun a => ?_, fun a22 => ?_⟩
    · have := tk 22 (by decide) ((kw_st hw 22 (by decide) (by decide +kernel)).mp a)
      rw [this] at q; exact q
    have hn : ¬ wdx B z p ∈ kwv := fun hx => by
      obtain ⟨k, hk, e2⟩ := kw_get hx
      have : k = 0 ∨ k = 1 ∨ k = 2 ∨ k = 3 ∨ k = 4 ∨ k = 5 ∨ k = 6 ∨ k = 7 ∨ k = 8 ∨ k = 9 ∨ k = 10 ∨ k = 11 ∨ k = 12 ∨ k = 13 ∨ k = 14 ∨ k = 15 ∨ k = 16 ∨ k = 17 ∨ k = 18 ∨ k = 19 ∨ k = 20 ∨ k = 21 ∨ k = 22 := by omega
      rcases this with rfl | rfl | rfl | rfl | rfl | rfl | rfl | rfl | rfl | rfl | rfl | rfl | rfl | rfl | rfl | rfl | rfl | rfl | rfl | rfl | rfl | rfl | rfl
      · exact a0 ((kw_st hw 0 (by decide) (by decide +kernel)).mpr e2)
      · exact a1 ((kw_st hw 1 (by decide) (by decide +kernel)).mpr e2)
      · exact a2 ((kw_st hw 2 (by decide) (by decide +kernel)).mpr e2)
      · exact a3 ((kw_st hw 3 (by decide) (by decide +kernel)).mpr e2)
      · exact a4 ((kw_st hw 4 (by decide) (by decide +kernel)).mpr e2)
      · exact a5 ((kw_st hw 5 (by decide) (by decide +kernel)).mpr e2)
      · exact a6 ((kw_st hw 6 (by decide) (by decide +kernel)).mpr e2)
      · exact a7 ((kw_st hw 7 (by decide) (by decide +kernel)).mpr e2)
      · exact a8 ((kw_st hw 8 (by decide) (by decide +kernel)).mpr e2)
      · exact a9 ((kw_st hw 9 (by decide) (by decide +kernel)).mpr e2)
      · exact a10 ((kw_st hw 10 (by decide) (by decide +kernel)).mpr e2)
      · exact a11 ((kw_st hw 11 (by decide) (by decide +kernel)).mpr e2)
      · exact a12 ((kw_st hw 12 (by decide) (by decide +kernel)).mpr e2)
      · exact a13 ((kw_st hw 13 (by decide) (by decide +kernel)).mpr e2)
      · exact a14 ((kw_st hw 14 (by decide) (by decide +kernel)).mpr e2)
      · exact a15 ((kw_st hw 15 (by decide) (by decide +kernel)).mpr e2)
      · exact a16 ((kw_st hw 16 (by decide) (by decide +kernel)).mpr e2)
      · exact a17 ((kw_st hw 17 (by decide) (by decide +kernel)).mpr e2)
      · exact a18 ((kw_st hw 18 (by decide) (by decide +kernel)).mpr e2)
      · exact a19 ((kw_st hw 19 (by decide) (by decide +kernel)).mpr e2)
      · exact a20 ((kw_st hw 20 (by decide) (by decide +kernel)).mpr e2)
      · exact a21 ((kw_st hw 21 (by decide) (by decide +kernel)).mpr e2)
      · exact a22 ((kw_st hw 22 (by decide) (by decide +kernel)).mpr e2)
    rw [twd_nm ⟨e, hn⟩] at q
    exact q
  · refine brF (fun a => e ?_) ?_
    · have : tkd B z p < 5 := by
        unfold tkd
        repeat (first | split | decide)
      exact (eI (by omega) (by decide)).mp a
    · have : twd B z p = -1 := if_neg e
      rw [this] at q; exact q
end TOKL
