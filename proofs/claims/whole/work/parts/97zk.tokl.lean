/-! leaves over tokens -/
def TC (κ : Mem) (B : Nat → Nat) (z T i : Nat) : Prop := TokC κ B z T ∧ mI κ 3 4 = nI i ∧ i ≤ T
section TOKLV
variable {G : Lay} {κ κ' ρ ρ' ρ2 κ1 ρ1 : Mem} {B : Nat → Nat} {z p T i : Nat}
theorem tk_any : tkd B z p = 0 ∨ tkd B z p = 1 ∨ tkd B z p = 2 ∨ tkd B z p = 3 ∨ tkd B z p = 4 := by
  have : tkd B z p < 5 := by
    unfold tkd
    repeat (first | split | decide)
  omega
theorem srt_0 : srt B z p = 0 ↔ tkd B z p = 0 := by
  unfold srt
  rcases tk_any (B := B) (z := z) (p := p) with e | e | e | e | e <;> rw [e] <;> simp
  split <;> decide
theorem srt_1 : srt B z p = 1 ↔ tkd B z p = 1 := by
  unfold srt
  rcases tk_any (B := B) (z := z) (p := p) with e | e | e | e | e <;> rw [e] <;> simp
  split <;> decide
theorem srt_2 : srt B z p = 2 ↔ nmT B z p := by
  unfold srt nmT wdx
  rcases tk_any (B := B) (z := z) (p := p) with e | e | e | e | e <;> rw [e] <;> simp
theorem srt_3 : srt B z p = 3 ↔ tkd B z p = 2 ∧ wdx B z p ∈ kwv := by
  unfold srt wdx
  rcases tk_any (B := B) (z := z) (p := p) with e | e | e | e | e <;> rw [e] <;> simp
theorem srt_4 : srt B z p = 4 ↔ tkd B z p = 3 := by
  unfold srt
  rcases tk_any (B := B) (z := z) (p := p) with e | e | e | e | e <;> rw [e] <;> simp
  split <;> decide
theorem srt_5 : srt B z p = 5 ↔ tkd B z p = 4 := by
  unfold srt
  rcases tk_any (B := B) (z := z) (p := p) with e | e | e | e | e <;> rw [e] <;> simp
  split <;> decide
theorem TC.zz (h : TC κ B z T i) : i ≤ T ∧ T ≤ z ∧ z ≤ 3000 := ⟨h.2.2, h.1.1.2.1, h.1.1.2.2⟩
theorem TC.tk (h : TC κ B z T i) : TkC κ B z i (pos B z i) := h.1.2.2.2 i h.2.2
theorem TC.lt (h : TC κ B z T i) (h2 : tkd B z (pos B z i) ≠ 0) : i < T := by
  have := tk_lt h2
  have := h.2.2
  rcases Nat.lt_or_ge i T with e | e
  · exact e
  · have : i = T := by omega
    subst this
    have := h.1.2.1
    omega
theorem TC.end_iff (h : TC κ B z T i) : tkd B z (pos B z i) = 0 ↔ i = T := by
  constructor
  · intro e
    rcases Nat.lt_or_ge i T with e2 | e2
    · exact absurd e (tk_no0 (h.1.2.2.1 i e2))
    · have := h.2.2; omega
  · intro e; rw [e]; exact tk_0 (by rw [h.1.2.1]; exact Nat.le_refl _)
theorem TC.nx (h : TC κ B z T i) (h2 : i < T) : pos B z (i + 1) = nx B z (eTk B z (pos B z i)) ∧ pos B z i < z := by
  have := h.1.2.2.1 i h2
  exact ⟨if_pos this, this⟩
theorem TokC.fr {T : Nat} (h : TokC κ B z T) (e3 : mI κ' 3 3 = mI κ 3 3) (e : ∀ a k, 4 ≤ a → a ≤ 6 → mI κ' a k = mI κ a k ∧ mJ κ' a k = mJ κ a k) : TokC κ' B z T := ⟨⟨e3.trans h.1.1, h.1.2⟩, h.2.1, h.2.2.1, fun j hj => (h.2.2.2 j hj).fr (fun a a1 a2 => e a j a1 a2)⟩
theorem AT.no0 {w : Int64} (h : AT B z p w) : tkd B z p ≠ 0 := by
  rcases h with h | h
  · rw [h.1]; decide
  · rw [h.1]; decide
/-- the next token -/
abbrev psC (κ : Mem) (i : Nat) : Mem := sI κ 3 4 (nI (i + 1))
theorem TC.ps (h : TC κ B z T i) (h2 : i < T) : TC (psC κ i) B z T (i + 1) := ⟨h.1.fr (I_sl (by decide)) (fun a k a1 a2 => ⟨I_cl (by omega), rfl⟩), I_is _ _ _ _, h2⟩
/-- a fault -/
abbrev flC (κ : Mem) (f : Int32) (p : Nat) : Mem := sI (sI κ 3 5 f) 3 6 (nI p)
abbrev flM (ρ : Mem) (f : Int32) (p : Nat) : Mem := sI (sI ρ 1282 54 f) 1282 55 (nI p)
theorem c_isName1 {Q : Int32 → Mem → Prop} (hL : LyC G) (hC : StC κ) (h : TC κ B z T i) (a : nmT B z (pos B z i)) (q : Q 1 (mg κ ρ1)) : X_X8_isName G Q 3 (mg κ ρ1) := by
  have hz := h.zz
  simp (disch := omega) only [X_X8_isName_18, X_X8_isName_0, X_X8_isName, mI_c, mR_c, mJ_c, sI_c, sJ_c, sR_c, hL.1, hL.2.1, hL.2.2, hC.1, hC.2.1, hC.2.2.1, lT, lF, tT, tF, eF, pF, zT, m1F, vT, cI, true_and, and_true, true_implies, false_implies, not_false_eq_true, not_true_eq_false, forall_eq, implies_true, h.2.1, h.tk.2.1]
  exact brT (srt_2.mpr a) ⟨bz1, q⟩
theorem c_isName0 {Q : Int32 → Mem → Prop} (hL : LyC G) (hC : StC κ) (h : TC κ B z T i) (a : ¬ nmT B z (pos B z i)) (q : Q 0 (mg κ ρ1)) : X_X8_isName G Q 3 (mg κ ρ1) := by
  have hz := h.zz
  simp (disch := omega) only [X_X8_isName_18, X_X8_isName_0, X_X8_isName, mI_c, mR_c, mJ_c, sI_c, sJ_c, sR_c, hL.1, hL.2.1, hL.2.2, hC.1, hC.2.1, hC.2.2.1, lT, lF, tT, tF, eF, pF, zT, m1F, vT, cI, true_and, and_true, true_implies, false_implies, not_false_eq_true, not_true_eq_false, forall_eq, implies_true, h.2.1, h.tk.2.1]
  exact brF (fun e => a (srt_2.mp e)) ⟨bz0, q⟩
theorem c_isNumber1 {Q : Int32 → Mem → Prop} (hL : LyC G) (hC : StC κ) (h : TC κ B z T i) (a : tkd B z (pos B z i) = 3) (q : Q 1 (mg κ ρ1)) : X_X8_isNumber G Q 3 (mg κ ρ1) := by
  have hz := h.zz
  simp (disch := omega) only [X_X8_isNumber_18, X_X8_isNumber_0, X_X8_isNumber, mI_c, mR_c, mJ_c, sI_c, sJ_c, sR_c, hL.1, hL.2.1, hL.2.2, hC.1, hC.2.1, hC.2.2.1, lT, lF, tT, tF, eF, pF, zT, m1F, vT, cI, true_and, and_true, true_implies, false_implies, not_false_eq_true, not_true_eq_false, forall_eq, implies_true, h.2.1, h.tk.2.1]
  exact brT (srt_4.mpr a) ⟨bz1, q⟩
theorem c_isNumber0 {Q : Int32 → Mem → Prop} (hL : LyC G) (hC : StC κ) (h : TC κ B z T i) (a : ¬ tkd B z (pos B z i) = 3) (q : Q 0 (mg κ ρ1)) : X_X8_isNumber G Q 3 (mg κ ρ1) := by
  have hz := h.zz
  simp (disch := omega) only [X_X8_isNumber_18, X_X8_isNumber_0, X_X8_isNumber, mI_c, mR_c, mJ_c, sI_c, sJ_c, sR_c, hL.1, hL.2.1, hL.2.2, hC.1, hC.2.1, hC.2.2.1, lT, lF, tT, tF, eF, pF, zT, m1F, vT, cI, true_and, and_true, true_implies, false_implies, not_false_eq_true, not_true_eq_false, forall_eq, implies_true, h.2.1, h.tk.2.1]
  exact brF (fun e => a (srt_4.mp e)) ⟨bz0, q⟩
theorem c_isEnd1 {Q : Int32 → Mem → Prop} (hL : LyC G) (hC : StC κ) (h : TC κ B z T i) (a : i = T) (q : Q 1 (mg κ ρ1)) : X_X8_isEnd G Q 3 (mg κ ρ1) := by
  have hz := h.zz
  simp (disch := omega) only [X_X8_isEnd_17, X_X8_isEnd_0, X_X8_isEnd, mI_c, mR_c, mJ_c, sI_c, sJ_c, sR_c, hL.1, hL.2.1, hL.2.2, hC.1, hC.2.1, hC.2.2.1, lT, lF, tT, tF, eF, pF, zT, m1F, vT, cI, true_and, and_true, true_implies, false_implies, not_false_eq_true, not_true_eq_false, forall_eq, implies_true, h.2.1, h.tk.2.1]
  exact brT (srt_0.mpr (h.end_iff.mpr a)) ⟨bz1, q⟩
theorem c_isEnd0 {Q : Int32 → Mem → Prop} (hL : LyC G) (hC : StC κ) (h : TC κ B z T i) (a : i < T) (q : Q 0 (mg κ ρ1)) : X_X8_isEnd G Q 3 (mg κ ρ1) := by
  have hz := h.zz
  simp (disch := omega) only [X_X8_isEnd_17, X_X8_isEnd_0, X_X8_isEnd, mI_c, mR_c, mJ_c, sI_c, sJ_c, sR_c, hL.1, hL.2.1, hL.2.2, hC.1, hC.2.1, hC.2.2.1, lT, lF, tT, tF, eF, pF, zT, m1F, vT, cI, true_and, and_true, true_implies, false_implies, not_false_eq_true, not_true_eq_false, forall_eq, implies_true, h.2.1, h.tk.2.1]
  exact brF (fun e => by have := h.end_iff.mp (srt_0.mp e); omega) ⟨bz0, q⟩
theorem c_isAt1 {Q : Int32 → Mem → Prop} {w : Int64} (hL : LyC G) (hC : StC κ) (h : TC κ B z T i) (a : AT B z (pos B z i) w) (q : Q 1 (mg κ ρ1)) : X_X8_isAt G Q 3 w (mg κ ρ1) := by
  have hz := h.zz
  simp (disch := omega) only [X_X8_isAt_45, X_X8_isAt_44, X_X8_isAt_26, X_X8_isAt_0, X_X8_isAt, mI_c, mR_c, mJ_c, sI_c, sJ_c, sR_c, hL.1, hL.2.1, hL.2.2, hC.1, hC.2.1, hC.2.2.1, lT, lF, tT, tF, eF, pF, zT, m1F, vT, cI, true_and, and_true, true_implies, false_implies, not_false_eq_true, not_true_eq_false, forall_eq, implies_true, h.2.1, h.tk.2.1, lg_cmp_eq, bzT1, bzT0]
  rcases a with ⟨a1, a2, a3⟩ | ⟨a1, a2⟩
  · exact brT (srt_3.mpr ⟨a1, a2⟩) (brT ((h.tk.2.2.1 a1).trans a3) q)
  · exact brF (fun e => by have := (srt_3.mp e).1; omega) (brT (srt_5.mpr a1) (brT ((h.tk.2.2.2.2 a1).trans a2) q))
theorem c_isAt0 {Q : Int32 → Mem → Prop} {w : Int64} (hL : LyC G) (hC : StC κ) (h : TC κ B z T i) (a : ¬ AT B z (pos B z i) w) (q : Q 0 (mg κ ρ1)) : X_X8_isAt G Q 3 w (mg κ ρ1) := by
  have hz := h.zz
  simp (disch := omega) only [X_X8_isAt_45, X_X8_isAt_44, X_X8_isAt_26, X_X8_isAt_0, X_X8_isAt, mI_c, mR_c, mJ_c, sI_c, sJ_c, sR_c, hL.1, hL.2.1, hL.2.2, hC.1, hC.2.1, hC.2.2.1, lT, lF, tT, tF, eF, pF, zT, m1F, vT, cI, true_and, and_true, true_implies, false_implies, not_false_eq_true, not_true_eq_false, forall_eq, implies_true, h.2.1, h.tk.2.1, lg_cmp_eq, bzT1, bzT0]
  refine ⟨fun e => brF (fun e2 => a (Or.inl ⟨(srt_3.mp e).1, (srt_3.mp e).2, ?_⟩)) q, fun e => ⟨fun e3 => brF (fun e2 => a (Or.inr ⟨srt_5.mp e3, ?_⟩)) q, fun _ => q⟩⟩
  · exact (h.tk.2.2.1 (srt_3.mp e).1).symm.trans e2
  · exact (h.tk.2.2.2.2 (srt_5.mp e3)).symm.trans e2
theorem c_takes1 {Q : Int32 → Mem → Prop} {w : Int64} (hL : LyC G) (hC : StC κ) (h : TC κ B z T i) (a : AT B z (pos B z i) w) (q : Q 1 (mg (psC κ i) ρ1)) : X_X8_takes G Q 3 w (mg κ ρ1) := by
  have hz := h.zz
  have hlt := h.lt a.no0
  have r : X_X8_takes_45 G Q 3 1 (mg κ ρ1) := by
    simp (disch := omega) only [X_X8_takes_45, X_X8_takes_71, mI_c, mR_c, mJ_c, sI_c, sJ_c, sR_c, hL.1, hL.2.1, hL.2.2, hC.1, hC.2.1, hC.2.2.1, lT, lF, tT, tF, eF, pF, zT, m1F, vT, cI, true_and, and_true, true_implies, false_implies, not_false_eq_true, not_true_eq_false, forall_eq, implies_true, h.2.1, h.1.1.1, nI_1, o0F, bzT1]
    exact q
  simp (disch := omega) only [X_X8_takes, X_X8_takes_0, X_X8_takes_26, X_X8_takes_44, mI_c, mR_c, mJ_c, sI_c, sJ_c, sR_c, hL.1, hL.2.1, hL.2.2, hC.1, hC.2.1, hC.2.2.1, lT, lF, tT, tF, eF, pF, zT, m1F, vT, cI, true_and, and_true, true_implies, false_implies, not_false_eq_true, not_true_eq_false, forall_eq, implies_true, h.2.1, h.tk.2.1, lg_cmp_eq]
  rcases a with ⟨a1, a2, a3⟩ | ⟨a1, a2⟩
  · exact brT (srt_3.mpr ⟨a1, a2⟩) (brT ((h.tk.2.2.1 a1).trans a3) r)
  · exact brF (fun e => by have := (srt_3.mp e).1; omega) (brT (srt_5.mpr a1) (brT ((h.tk.2.2.2.2 a1).trans a2) r))
theorem c_takes0 {Q : Int32 → Mem → Prop} {w : Int64} (hL : LyC G) (hC : StC κ) (h : TC κ B z T i) (a : ¬ AT B z (pos B z i) w) (q : Q 0 (mg κ ρ1)) : X_X8_takes G Q 3 w (mg κ ρ1) := by
  have hz := h.zz
  have r : X_X8_takes_45 G Q 3 0 (mg κ ρ1) := ⟨fun _ => ⟨bz0, q⟩, fun e => absurd rfl e⟩
  simp (disch := omega) only [X_X8_takes, X_X8_takes_0, X_X8_takes_26, X_X8_takes_44, mI_c, mR_c, mJ_c, sI_c, sJ_c, sR_c, hL.1, hL.2.1, hL.2.2, hC.1, hC.2.1, hC.2.2.1, lT, lF, tT, tF, eF, pF, zT, m1F, vT, cI, true_and, and_true, true_implies, false_implies, not_false_eq_true, not_true_eq_false, forall_eq, implies_true, h.2.1, h.tk.2.1, lg_cmp_eq]
  refine ⟨fun e => brF (fun e2 => a (Or.inl ⟨(srt_3.mp e).1, (srt_3.mp e).2, ?_⟩)) r, fun e => ⟨fun e3 => brF (fun e2 => a (Or.inr ⟨srt_5.mp e3, ?_⟩)) r, fun _ => r⟩⟩
  · exact (h.tk.2.2.1 (srt_3.mp e).1).symm.trans e2
  · exact (h.tk.2.2.2.2 (srt_5.mp e3)).symm.trans e2
theorem c_misplaced {Q : Int32 → Mem → Prop} (hL : LyC G) (hC : StC κ) (h : TC κ B z T i) (q : Q 0 (mg (flC κ (flt B z (pos B z i)) (pos B z i)) ρ1)) : X_X8_misplaced G Q 3 (mg κ ρ1) := by
  have hz := h.zz
  unfold flt at q
  simp (disch := omega) only [X_X8_misplaced_19, X_X8_misplaced_0, X_X8_misplaced, mI_c, mR_c, mJ_c, sI_c, sJ_c, sR_c, hL.1, hL.2.1, hL.2.2, hC.1, hC.2.1, hC.2.2.1, lT, lF, tT, tF, eF, pF, zT, m1F, vT, cI, true_and, and_true, true_implies, false_implies, not_false_eq_true, not_true_eq_false, forall_eq, implies_true, I_is, I_cl, I_sl, J_is, J_cl, J_sl, R_is, R_cl, R_sl, mI_sJ, mI_sR, mJ_sI, mJ_sR, mR_sI, mR_sJ, h.2.1, h.tk.2.1, h.tk.1, bzT0]
  refine ⟨fun e => ?_, fun e => ?_⟩
  · rw [if_pos (srt_1.mp e)] at q; exact q
  · rw [if_neg (fun e2 => e (srt_1.mpr e2))] at q; exact q
theorem c_expects1 {Q : Int32 → Mem → Prop} {w : Int64} (hL : LyC G) (hC : StC κ) (h : TC κ B z T i) (a : AT B z (pos B z i) w) (q : Q 1 (mg (psC κ i) ρ1)) : X_X8_expects G Q 3 w (mg κ ρ1) :=
  ⟨hL.1.2.2.2.1, c_takes1 hL hC h a (br1 ⟨bz1, q⟩)⟩
theorem c_expects0 {Q : Int32 → Mem → Prop} {w : Int64} (hL : LyC G) (hC : StC κ) (h : TC κ B z T i) (a : ¬ AT B z (pos B z i) w) (q : Q 0 (mg (flC κ (flt B z (pos B z i)) (pos B z i)) ρ1)) : X_X8_expects G Q 3 w (mg κ ρ1) :=
  ⟨hL.1.2.2.2.1, c_takes0 hL hC h a (br0 (c_misplaced hL hC h (br0 ⟨bz0, q⟩)))⟩
theorem c_refuse {Q : Int32 → Mem → Prop} (hL : LyC G) (hC : StC κ) (h : TC κ B z T i) {f : Int32} (q : Q 0 (mg (flC κ f (pos B z i)) ρ1)) : X_X8_refuse G Q 3 f (mg κ ρ1) := by
  have hz := h.zz
  simp (disch := omega) only [X_X8_refuse_0, X_X8_refuse, X_X8_refuseAt_0, X_X8_refuseAt, mI_c, mR_c, mJ_c, sI_c, sJ_c, sR_c, hL.1, hL.2.1, hL.2.2, hC.1, hC.2.1, hC.2.2.1, lT, lF, tT, tF, eF, pF, zT, m1F, vT, cI, true_and, and_true, true_implies, false_implies, not_false_eq_true, not_true_eq_false, forall_eq, implies_true, I_is, I_cl, I_sl, J_is, J_cl, J_sl, R_is, R_cl, R_sl, mI_sJ, mI_sR, mJ_sI, mJ_sR, mR_sI, mR_sJ, h.2.1, h.tk.1, bzT0]
  exact q
theorem c_pass (hL : LyC G) (hC : StC κ) (h : TC κ B z T i) {Q : Mem → Prop} (a : i < T) (q : Q (mg (psC κ i) ρ1)) : X_X8_pass G Q 3 (mg κ ρ1) := by
  have hz := h.zz
  simp (disch := omega) only [X_X8_pass_21, X_X8_pass_0, X_X8_pass, mI_c, mR_c, mJ_c, sI_c, sJ_c, sR_c, hL.1, hL.2.1, hL.2.2, hC.1, hC.2.1, hC.2.2.1, lT, lF, tT, tF, eF, pF, zT, m1F, vT, cI, true_and, and_true, true_implies, false_implies, not_false_eq_true, not_true_eq_false, forall_eq, implies_true, h.2.1, h.1.1.1, nI_1]
  exact q
theorem c_word (hL : LyC G) (hC : StC κ) (h : TC κ B z T i) {Q : Int64 → Mem → Prop} (a : tkd B z (pos B z i) = 2) (q : Q (wdx B z (pos B z i)) (mg κ ρ1)) : X_X8_word G Q 3 (mg κ ρ1) := by
  have hz := h.zz
  simp (disch := omega) only [X_X8_word_0, X_X8_word, mI_c, mR_c, mJ_c, sI_c, sJ_c, sR_c, hL.1, hL.2.1, hL.2.2, hC.1, hC.2.1, hC.2.2.1, lT, lF, tT, tF, eF, pF, zT, m1F, vT, cI, true_and, and_true, true_implies, false_implies, not_false_eq_true, not_true_eq_false, forall_eq, implies_true, h.2.1]
  rw [h.tk.2.2.1 a]; exact q
theorem c_number {Q : Int32 → Mem → Prop} (hL : LyC G) (hC : StC κ) (h : TC κ B z T i) (a : tkd B z (pos B z i) = 3) (q : Q (nI (cd B (pos B z i) (eTk B z (pos B z i) - pos B z i))) (mg κ ρ1)) : X_X8_number G Q 3 (mg κ ρ1) := by
  have hz := h.zz
  simp (disch := omega) only [X_X8_number_0, X_X8_number, mI_c, mR_c, mJ_c, sI_c, sJ_c, sR_c, hL.1, hL.2.1, hL.2.2, hC.1, hC.2.1, hC.2.2.1, lT, lF, tT, tF, eF, pF, zT, m1F, vT, cI, true_and, and_true, true_implies, false_implies, not_false_eq_true, not_true_eq_false, forall_eq, implies_true, h.2.1]
  rw [h.tk.2.2.2.1 a, lN_i]; exact q
theorem c_placeNow {Q : Int32 → Mem → Prop} (hL : LyC G) (hC : StC κ) (h : TC κ B z T i) (q : Q (nI (pos B z i)) (mg κ ρ1)) : X_X8_placeNow G Q 3 (mg κ ρ1) := by
  have hz := h.zz
  simp (disch := omega) only [X_X8_placeNow_0, X_X8_placeNow, mI_c, mR_c, mJ_c, sI_c, sJ_c, sR_c, hL.1, hL.2.1, hL.2.2, hC.1, hC.2.1, hC.2.2.1, lT, lF, tT, tF, eF, pF, zT, m1F, vT, cI, true_and, and_true, true_implies, false_implies, not_false_eq_true, not_true_eq_false, forall_eq, implies_true, h.2.1, h.tk.1]
  exact q
theorem m_isName1 {Q : Int32 → Mem → Prop} (hM : LyM G) (h : TM ρ B z p) (a : nmT B z p) (q : Q 1 (mg κ1 ρ)) : X_X12_isName G Q 1282 (mg κ1 ρ) := by
  simp (disch := omega) only [X_X12_isName, X_X12_isName_0, X_X12_isName_20, hM.1, mI_m, h.2.2.2.1, a.1, true_and]
  refine brT rfl (m_toldWord hM h ?_)
  rw [twd_nm a]
  exact brF (by decide) ⟨bz1, q⟩
theorem m_isName0 {Q : Int32 → Mem → Prop} (hM : LyM G) (h : TM ρ B z p) (a : ¬ nmT B z p) (q : Q 0 (mg κ1 ρ)) : X_X12_isName G Q 1282 (mg κ1 ρ) := by
  simp (disch := omega) only [X_X12_isName, X_X12_isName_0, X_X12_isName_19, X_X12_isName_20, hM.1, mI_m, h.2.2.2.1, true_and]
  refine ⟨fun e => m_toldWord hM h ?_, fun _ => ⟨bz0, q⟩⟩
  have e2 : tkd B z p = 2 := (eI (by rcases tk_any (B := B) (z := z) (p := p) with e | e | e | e | e <;> omega) (by decide)).mp e
  rcases twd_any (B := B) (z := z) (p := p) with e3 | ⟨k, hk, e3⟩
  · exact absurd (nm_twd e2 e3) a
  · rw [e3]
    exact brT (Int32.not_lt.mp (pI (by omega))) ⟨bz0, q⟩
theorem m_is1 {Q : Int32 → Mem → Prop} {s : Nat} (hM : LyM G) (h : TM ρ B z p) (a : sgA B z p s) (q : Q 1 (mg κ1 ρ)) : X_X12_is G Q 1282 (nI s) (mg κ1 ρ) := by
  simp (disch := omega) only [X_X12_is_21, X_X12_is_20, X_X12_is_0, X_X12_is, hM.1, mI_m, h.2.2.2.1, a.1, true_and]
  exact brT rfl (brT (by rw [h.2.2.2.2.2.2 a.1, a.2]) ⟨bz1, q⟩)
theorem m_is0 {Q : Int32 → Mem → Prop} {s : Nat} (hM : LyM G) (h : TM ρ B z p) (hs : s < 256) (a : ¬ sgA B z p s) (q : Q 0 (mg κ1 ρ)) : X_X12_is G Q 1282 (nI s) (mg κ1 ρ) := by
  simp (disch := omega) only [X_X12_is_21, X_X12_is_20, X_X12_is_0, X_X12_is, hM.1, mI_m, h.2.2.2.1, true_and]
  refine ⟨fun e => brF (fun e2 => a ?_) ⟨bz0, q⟩, fun _ => ⟨bz0, q⟩⟩
  have e4 : tkd B z p = 4 := (eI (by rcases tk_any (B := B) (z := z) (p := p) with e | e | e | e | e <;> omega) (by decide)).mp e
  rw [h.2.2.2.2.2.2 e4] at e2
  have := tk_sgn e4
  exact ⟨e4, (eI (by omega) (by omega)).mp e2⟩
theorem m_fails {Q : Int32 → Mem → Prop} (hM : LyM G) (h : TM ρ B z p) {f : Int32} (q : Q 0 (mg κ1 (flM ρ f p))) : X_X12_fails G Q 1282 f (mg κ1 ρ) := by
  simp (disch := omega) only [X_X12_fails_0, X_X12_fails, hM.1, mI_m, sI_m, lT, lF, tT, tF, eF, pF, zT, m1F, vT, cI, true_and, and_true, true_implies, false_implies, not_false_eq_true, not_true_eq_false, forall_eq, implies_true, I_is, I_cl, I_sl, J_is, J_cl, J_sl, R_is, R_cl, R_sl, mI_sJ, mI_sR, mJ_sI, mJ_sR, mR_sI, mR_sJ, h.2.1, bzT0]
  exact q
theorem m_wrong {Q : Int32 → Mem → Prop} (hM : LyM G) (h : TM ρ B z p) (q : Q 0 (mg κ1 (flM ρ (flt B z p) p))) : X_X12_wrong G Q 1282 (mg κ1 ρ) := by
  unfold flt at q
  simp (disch := omega) only [X_X12_wrong_14, X_X12_wrong_0, X_X12_wrong, hM.1, mI_m, h.2.2.2.1, true_and]
  refine ⟨fun e => ?_, fun e => ?_⟩
  · have e2 : tkd B z p = 1 := (eI (b := 1) (by rcases tk_any (B := B) (z := z) (p := p) with e | e | e | e | e <;> omega) (by decide)).mp e
    rw [if_pos e2] at q
    exact m_fails hM h ⟨bz0, q⟩
  · rw [if_neg (fun e2 => e (by rw [e2]; rfl))] at q
    exact m_fails hM h ⟨bz0, q⟩
theorem m_needs1 {Q : Int32 → Mem → Prop} {s : Nat} (hM : LyM G) (h : TM ρ B z p) (a : sgA B z p s) (r : RunM0 (fun Q σ => X_X12_advance G Q 1282 σ) ρ ρ2) (q : Q 1 (mg κ1 ρ2)) : X_X12_needs G Q 1282 (nI s) (mg κ1 ρ) :=
  ⟨hM.1, m_is1 hM h a (br1 (r κ1 _ ⟨bz1, q⟩))⟩
theorem m_needs0 {Q : Int32 → Mem → Prop} {s : Nat} (hM : LyM G) (h : TM ρ B z p) (hs : s < 256) (a : ¬ sgA B z p s) (q : Q 0 (mg κ1 (flM ρ (flt B z p) p))) : X_X12_needs G Q 1282 (nI s) (mg κ1 ρ) :=
  ⟨hM.1, m_is0 hM h hs a (br0 (m_wrong hM h ⟨bz0, q⟩))⟩
theorem m_needsWord1 {Q : Int32 → Mem → Prop} (hM : LyM G) (h : TM ρ B z p) {k : Nat} (a : twd B z p = nI k) (r : RunM0 (fun Q σ => X_X12_advance G Q 1282 σ) ρ ρ2) (q : Q 1 (mg κ1 ρ2)) : X_X12_needsWord G Q 1282 (nI k) (mg κ1 ρ) :=
  ⟨hM.1, m_toldWord hM h (brT a (r κ1 _ ⟨bz1, q⟩))⟩
theorem m_needsWord0 {Q : Int32 → Mem → Prop} (hM : LyM G) (h : TM ρ B z p) {k : Nat} (a : ¬ twd B z p = nI k) (q : Q 0 (mg κ1 (flM ρ (flt B z p) p))) : X_X12_needsWord G Q 1282 (nI k) (mg κ1 ρ) :=
  ⟨hM.1, m_toldWord hM h (brF a (m_wrong hM h ⟨bz0, q⟩))⟩
theorem TM.fr (h : TM ρ B z p) (e : Eqv (fun a k => a = 1282 ∧ (k = 1 ∨ 49 ≤ k ∧ k ≤ 53) ∨ a = 1283) ρ ρ') : TM ρ' B z p := by
  obtain ⟨⟨b1, b2, b3⟩, t1, t2, t3, t4, t5, t6⟩ := h
  refine ⟨⟨(e.I (by omega)).trans b1, b2, fun k hk => ?_⟩, (e.I (by omega)).trans t1, (e.I (by omega)).trans t2, (e.I (by omega)).trans t3, fun x => (e.J (by omega)).trans (t4 x), fun x => (e.I (by omega)).trans (t5 x), fun x => (e.I (by omega)).trans (t6 x)⟩
  rw [e.I (by omega)]; exact b3 k hk
theorem m_adv (hM : LyM G) (hm : StM ρ) (hC : TC κ B z T i) (h : TM ρ B z (pos B z i)) (hi : i < T) : ∃ ρ', RunM0 (fun Q σ => X_X12_advance G Q 1282 σ) ρ ρ' ∧ StM ρ' ∧ Eqv avM ρ ρ' ∧ TM ρ' B z (pos B z (i + 1)) := by
  obtain ⟨n1, n2⟩ := hC.nx hi
  have g := h.2.2.1
  rw [if_pos n2] at g
  obtain ⟨ρ', r, r1, r2, r3⟩ := m_advance hM hm h.1 (eTk_ok n2).2 g
  refine ⟨ρ', r, r1, r2, h.1.fr r2, ?_⟩
  rw [n1]; exact r3
theorem aK {k : Nat} {w : Int64} (h : twd B z p = nI k) (hk : k < 23) (e : w = kwv.getD k 0) : AT B z p w := by rw [e]; exact (AT_k hk).mpr h
theorem nK {k : Nat} {w : Int64} (h : ¬ twd B z p = nI k) (hk : k < 23) (e : w = kwv.getD k 0) : ¬ AT B z p w := by rw [e]; exact fun a => h ((AT_k hk).mp a)
theorem aS {s : Nat} {w : Int64} (h : sgA B z p s) (hs : s < 256) (e : w = lN s) : AT B z p w := by rw [e]; exact (AT_s hs).mpr h
theorem nS {s : Nat} {w : Int64} (h : ¬ sgA B z p s) (hs : s < 256) (e : w = lN s) : ¬ AT B z p w := by rw [e]; exact fun a => h ((AT_s hs).mp a)
end TOKLV
