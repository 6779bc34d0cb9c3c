/-! terms of a question, side by side -/
def opn : List Nat → Nat
  | [] => 0
  | x :: r => (if x = 2 ∨ x = 5 then 1 else 0) + opn r
def bin : List Nat → Nat
  | [] => 0
  | x :: r => (if x = 3 ∨ x = 4 then 1 else 0) + bin r
def StkM (ρ : Mem) : List Nat → Prop
  | [] => True
  | x :: r => mI ρ 1346 r.length = nI x ∧ StkM ρ r
def StkC (κ : Mem) : List Nat → Prop
  | [] => True
  | x :: r => mI κ 12 r.length = nI (if x = 5 then 5 else x - 2) ∧ StkC κ r
def WfS : List Nat → Prop
  | [] => True
  | x :: r => (x = 2 ∨ x = 5 ∨ x = 4 ∧ (r = [] ∨ ∃ t, r = 5 :: t) ∨ x = 3 ∧ (r = [] ∨ (∃ t, r = 5 :: t) ∨ ∃ t, r = 4 :: t)) ∧ WfS r
def ActM (n : Nat) (mc : Nat → Nat) (ρ : Mem) (c0 S : Nat) (D : Nat → Nat) (j : Nat) : Prop := (∃ op, (op = 2 ∨ op = 3 ∨ op = 4) ∧ mI ρ 1339 j = nI op ∧ (op = 2 → 1 ≤ D j ∧ D (j + 1) = D j) ∧ (op ≠ 2 → 2 ≤ D j ∧ D (j + 1) + 1 = D j)) ∨ ∃ e fr cnt c m, e ≤ 1 ∧ (mI ρ 1339 j = nI e ∧ mI ρ 1340 j = nI fr ∧ mI ρ 1341 j = nI (cnt + 1)) ∧ fr + cnt + 1 ≤ S ∧ (c < n ∧ m < mc c ∧ Pth n mc ρ c0 fr cnt c ∧ mI ρ 1344 (fr + cnt) = nI m) ∧ D j < 64 ∧ D (j + 1) = D j + 1
def ActC (κ ρ : Mem) (S : Nat) (P : Nat → Nat) (j : Nat) : Prop := (∃ op, (op = 2 ∨ op = 3 ∨ op = 4) ∧ mI ρ 1339 j = nI op ∧ mI κ 9 (P j) = nI (op - 2) ∧ P (j + 1) = P j + 1) ∨ ∃ e fr cnt, (e ≤ 1 ∧ fr + cnt + 1 ≤ S) ∧ (mI ρ 1339 j = nI e ∧ mI ρ 1340 j = nI fr ∧ mI ρ 1341 j = nI (cnt + 1)) ∧ (mI κ 9 (P j) = nI (4 - e) ∧ mI κ 9 (P j + 1) = nI (cnt + 1)) ∧ (∀ q, q < cnt + 1 → mI κ 9 (P j + 2 + q) = mI ρ 1344 (fr + q)) ∧ P (j + 1) = P j + cnt + 5 - 2 * e ∧ (e = 0 → mI κ 9 (P j + cnt + 3) = mI ρ 1342 j ∧ mI κ 9 (P j + cnt + 4) = mI ρ 1343 j)
def Prog (n : Nat) (mc : Nat → Nat) (κ ρ : Mem) (c0 A k S : Nat) (P D : Nat → Nat) : Prop := (∀ j, j < A → ActM n mc ρ c0 S D j) ∧ (∀ j, j < A - k → ActC κ ρ S P j) ∧ (∀ j, A - k ≤ j → j < A → mI ρ 1339 j = nI 2 ∧ P (j + 1) = P j + 1) ∧ P 0 = 0 ∧ D 0 = 0 ∧ k ≤ A
def QT (κ0 ρ0 : Mem) (sc n : Nat) (mc : Nat → Nat) (B : Nat → Nat) (z T c0 t : Nat) (κ ρ : Mem) (i : Nat) (st : List Nat) (k A S : Nat) (P D : Nat → Nat) : Prop := QP κ0 ρ0 sc B z T κ ρ i ∧ (mI ρ 1282 80 = nI A ∧ mI ρ 1282 87 = nI S ∧ mI ρ 1282 88 = nI (opn st) ∧ mI ρ 1282 89 = nI c0 ∧ mI ρ 1282 93 = nI st.length) ∧ (mI κ 8 0 = nI c0 ∧ mI κ 8 1 = nI (P (A - k)) ∧ mI κ 11 4 = nI (st.length + k) ∧ mI κ 11 5 = nI (opn st + k)) ∧ (StkM ρ st ∧ StkC κ st ∧ ∀ q, q < k → mI κ 12 (st.length + q) = 0) ∧ (WfS st ∧ opn st + k ≤ 20) ∧ Prog n mc κ ρ c0 A k S P D ∧ D A = bin st + t ∧ (P A + st.length + 4 ≤ 2 * i ∧ A + st.length ≤ i ∧ S ≤ i) ∧ c0 < n
def Jq (κ0 ρ0 : Mem) (XC XM : (Int32 → Mem → Prop) → Mem → Prop) (R : Mem → Mem → Prop) (κ ρ : Mem) : Prop := ∃ r κ' ρ', RunC XC κ r κ' ∧ RunM XM ρ r ρ' ∧ ((r = 0 ∧ Fq κ0 ρ0 κ' ρ') ∨ (r = 1 ∧ R κ' ρ'))
section QTM
variable {G : Lay} {κ0 ρ0 κa ρa κ κ' ρ ρ' ρ2 κ1 ρ1 κ2 : Mem} {sc n z T i c0 t k A S p0 L : Nat} {st : List Nat} {B : Nat → Nat} {mc rt hc P D : Nat → Nat} {XC XC2 XM XM2 : (Int32 → Mem → Prop) → Mem → Prop} {R : Mem → Mem → Prop}
theorem Jq.stp (h1 : ∀ ρ1 (Q : Int32 → Mem → Prop), XC2 Q (mg κ2 ρ1) → XC Q (mg κ ρ1)) (h2 : ∀ κ1 (Q : Int32 → Mem → Prop), XM2 Q (mg κ1 ρ2) → XM Q (mg κ1 ρ)) (h : Jq κ0 ρ0 XC2 XM2 R κ2 ρ2) : Jq κ0 ρ0 XC XM R κ ρ := by
  obtain ⟨r, κ', ρ', a, b, d⟩ := h
  exact ⟨r, κ', ρ', fun ρ1 Q hQ => h1 ρ1 Q (a ρ1 Q hQ), fun κ1 Q hQ => h2 κ1 Q (b κ1 Q hQ), d⟩
theorem Jq.fail (h1 : ∀ ρ1 (Q : Int32 → Mem → Prop), Q 0 (mg κ' ρ1) → XC Q (mg κ ρ1)) (h2 : ∀ κ1 (Q : Int32 → Mem → Prop), Q 0 (mg κ1 ρ') → XM Q (mg κ1 ρ)) (h : Fq κ0 ρ0 κ' ρ') : Jq κ0 ρ0 XC XM R κ ρ := ⟨0, κ', ρ', h1, h2, Or.inl ⟨rfl, h⟩⟩
theorem Jq.good (h1 : ∀ ρ1 (Q : Int32 → Mem → Prop), Q 1 (mg κ' ρ1) → XC Q (mg κ ρ1)) (h2 : ∀ κ1 (Q : Int32 → Mem → Prop), Q 1 (mg κ1 ρ') → XM Q (mg κ1 ρ)) (h : R κ' ρ') : Jq κ0 ρ0 XC XM R κ ρ := ⟨1, κ', ρ', h1, h2, Or.inr ⟨rfl, h⟩⟩
theorem WfS.bnd : ∀ {st : List Nat}, WfS st → st.length ≤ 3 * opn st + 2 ∧ bin st ≤ 2 * opn st + 2 ∧ (∀ x r, st = x :: r → (x = 2 ∨ x = 5 → st.length ≤ 3 * opn st ∧ bin st ≤ 2 * opn st) ∧ (x = 4 → st.length ≤ 3 * opn st + 1 ∧ bin st ≤ 2 * opn st + 1)) := by
  intro st
  induction st with
  | nil => intro _; exact ⟨by decide, by decide, fun x r h => by cases h⟩
  | cons y s ih =>
    intro h
    obtain ⟨h1, h2⟩ := h
    obtain ⟨b1, b2, b3⟩ := ih h2
    have e5 : ∀ u, s = 5 :: u → s.length ≤ 3 * opn s ∧ bin s ≤ 2 * opn s := fun u e => (b3 5 u e).1 (Or.inr rfl)
    have e4 : ∀ u, s = 4 :: u → s.length ≤ 3 * opn s + 1 ∧ bin s ≤ 2 * opn s + 1 := fun u e => (b3 4 u e).2 rfl
    have l : (y :: s).length = s.length + 1 := rfl
    have lo : opn (y :: s) = (if y = 2 ∨ y = 5 then 1 else 0) + opn s := rfl
    have lb : bin (y :: s) = (if y = 3 ∨ y = 4 then 1 else 0) + bin s := rfl
    rcases h1 with rfl | rfl | ⟨rfl, h1⟩ | ⟨rfl, h1⟩
    · rw [if_pos (Or.inl rfl)] at lo
      rw [if_neg (by decide)] at lb
      refine ⟨by omega, by omega, fun x r e => ⟨fun _ => ⟨by omega, by omega⟩, fun e2 => ?_⟩⟩
      cases e; exact absurd e2 (by decide)
    · rw [if_pos (Or.inr rfl)] at lo
      rw [if_neg (by decide)] at lb
      refine ⟨by omega, by omega, fun x r e => ⟨fun _ => ⟨by omega, by omega⟩, fun e2 => ?_⟩⟩
      cases e; exact absurd e2 (by decide)
    · rw [if_neg (by decide)] at lo
      rw [if_pos (Or.inr rfl)] at lb
      have q : s.length ≤ 3 * opn s ∧ bin s ≤ 2 * opn s := by
        rcases h1 with rfl | ⟨u, e⟩
        · exact ⟨by decide, by decide⟩
        · exact e5 u e
      refine ⟨by omega, by omega, fun x r e => ⟨fun e2 => ?_, fun _ => ⟨by omega, by omega⟩⟩⟩
      cases e; rcases e2 with e2 | e2 <;> exact absurd e2 (by decide)
    · rw [if_neg (by decide)] at lo
      rw [if_pos (Or.inl rfl)] at lb
      have q : s.length ≤ 3 * opn s + 1 ∧ bin s ≤ 2 * opn s + 1 := by
        rcases h1 with rfl | ⟨u, e⟩ | ⟨u, e⟩
        · exact ⟨by decide, by decide⟩
        · have := e5 u e; omega
        · exact e4 u e
      refine ⟨by omega, by omega, fun x r e => ⟨fun e2 => ?_, fun e2 => ?_⟩⟩
      · cases e; rcases e2 with e2 | e2 <;> exact absurd e2 (by decide)
      · cases e; exact absurd e2 (by decide)
theorem StkM.fr : ∀ {st : List Nat}, StkM ρ st → (∀ q, q < st.length → mI ρ' 1346 q = mI ρ 1346 q) → StkM ρ' st := by
  intro st
  induction st with
  | nil => intro _ _; trivial
  | cons y s ih => intro h e; exact ⟨(e _ (Nat.lt_succ_self _)).trans h.1, ih h.2 fun q hq => e q (Nat.lt_succ_of_lt hq)⟩
theorem StkC.fr : ∀ {st : List Nat}, StkC κ st → (∀ q, q < st.length → mI κ' 12 q = mI κ 12 q) → StkC κ' st := by
  intro st
  induction st with
  | nil => intro _ _; trivial
  | cons y s ih => intro h e; exact ⟨(e _ (Nat.lt_succ_self _)).trans h.1, ih h.2 fun q hq => e q (Nat.lt_succ_of_lt hq)⟩
theorem Pth.fr {fr cnt c : Nat} (h : Pth n mc ρ c0 fr cnt c) (e1 : ∀ q, q < cnt → mI ρ' 1344 (fr + q) = mI ρ 1344 (fr + q)) (e2 : ∀ j, mI ρ' 1290 j = mI ρ 1290 j ∧ mI ρ' 1291 j = mI ρ 1291 j) : Pth n mc ρ' c0 fr cnt c := by
  obtain ⟨cs, y1, y2, y3⟩ := h
  refine ⟨cs, y1, y2, fun q hq => ?_⟩
  obtain ⟨z1, m', z2, z3, z4, z5⟩ := y3 q hq
  exact ⟨z1, m', z2, (e1 q hq).trans z3, (e2 _).1.trans z4, (e2 _).2.trans z5⟩
theorem ActM.fr {j S' : Nat} (h : ActM n mc ρ c0 S D j) (hS : S ≤ S') (e1 : ∀ a, 1339 ≤ a → a ≤ 1343 → mI ρ' a j = mI ρ a j) (e2 : ∀ q, q < S → mI ρ' 1344 q = mI ρ 1344 q) (e3 : ∀ j, mI ρ' 1290 j = mI ρ 1290 j ∧ mI ρ' 1291 j = mI ρ 1291 j) {D' : Nat → Nat} (eD : D' j = D j ∧ D' (j + 1) = D (j + 1)) : ActM n mc ρ' c0 S' D' j := by
  unfold ActM
  rw [eD.1, eD.2, e1 1339 (by decide) (by decide), e1 1340 (by decide) (by decide), e1 1341 (by decide) (by decide)]
  rcases h with h | ⟨e, fr, cnt, c, m, h1, h2, h3, ⟨h4, h5, h6, h7⟩, h8⟩
  · exact Or.inl h
  · exact Or.inr ⟨e, fr, cnt, c, m, h1, h2, by omega, ⟨h4, h5, h6.fr (fun q hq => e2 _ (by omega)) e3, (e2 _ (by omega)).trans h7⟩, h8⟩
theorem ActC.fr {j S S' : Nat} (h : ActC κ ρ S P j) (hS : S ≤ S') (e1 : ∀ a, 1339 ≤ a → a ≤ 1343 → mI ρ' a j = mI ρ a j) (e2 : ∀ q, q < S → mI ρ' 1344 q = mI ρ 1344 q) (e3 : ∀ q, q < P (j + 1) → mI κ' 9 q = mI κ 9 q) {P' : Nat → Nat} (eP : P' j = P j ∧ P' (j + 1) = P (j + 1)) : ActC κ' ρ' S' P' j := by
  unfold ActC
  rw [eP.1, eP.2, e1 1339 (by decide) (by decide), e1 1340 (by decide) (by decide), e1 1341 (by decide) (by decide), e1 1342 (by decide) (by decide), e1 1343 (by decide) (by decide)]
  rcases h with ⟨op, h1, h2, h3, h4⟩ | ⟨e, fr, cnt, ⟨h1, h1'⟩, ⟨h2, h2b, h2c⟩, ⟨h3, h3'⟩, h4, h5, h6⟩
  · exact Or.inl ⟨op, h1, h2, (e3 _ (by omega)).trans h3, h4⟩
  · refine Or.inr ⟨e, fr, cnt, ⟨h1, by omega⟩, ⟨h2, h2b, h2c⟩, ⟨(e3 _ (by omega)).trans h3, (e3 _ (by omega)).trans h3'⟩, fun q hq => ?_, h5, fun e0 => ?_⟩
    · rw [e3 _ (by omega), e2 _ (by omega)]
      exact h4 q hq
    · obtain ⟨y1, y2⟩ := h6 e0
      exact ⟨(e3 _ (by omega)).trans y1, (e3 _ (by omega)).trans y2⟩
theorem ActC.lt {j : Nat} (h : ActC κ ρ S P j) : P j < P (j + 1) := by
  rcases h with ⟨op, -, -, -, h4⟩ | ⟨e, fr, cnt, ⟨h1, h1'⟩, -, -, -, h5, -⟩ <;> omega
theorem Prog.le (h : Prog n mc κ ρ c0 A k S P D) : ∀ d j, j + d ≤ A → P j ≤ P (j + d) := by
  intro d
  induction d with
  | zero => intro j _; exact Nat.le_refl _
  | succ d ih =>
    intro j hj
    have h1 := ih j (by omega)
    have h2 : P (j + d) < P (j + d + 1) := by
      by_cases e : j + d < A - k
      · exact (h.2.1 _ e).lt
      · have := (h.2.2.1 (j + d) (by omega) (by omega)).2
        omega
    rw [show j + (d + 1) = j + d + 1 by omega]
    omega
theorem Prog.le' (h : Prog n mc κ ρ c0 A k S P D) {a b : Nat} (h1 : a ≤ b) (h2 : b ≤ A) : P a ≤ P b := by
  have := h.le (b - a) a (by omega)
  rw [show a + (b - a) = b by omega] at this
  exact this
/-- what the program stands on -/
theorem Prog.fr (h : Prog n mc κ ρ c0 A k S P D) (e1 : ∀ a j, j < A → 1339 ≤ a → a ≤ 1343 → mI ρ' a j = mI ρ a j) (e2 : ∀ q, q < S → mI ρ' 1344 q = mI ρ 1344 q) (e3 : ∀ j, mI ρ' 1290 j = mI ρ 1290 j ∧ mI ρ' 1291 j = mI ρ 1291 j) (e4 : ∀ q, q < P (A - k) → mI κ' 9 q = mI κ 9 q) : Prog n mc κ' ρ' c0 A k S P D := by
  obtain ⟨h1, h2, h3, h4, h5, h6⟩ := id h
  refine ⟨fun j hj => (h1 j hj).fr (Nat.le_refl _) (fun a x y => e1 a j hj x y) e2 e3 ⟨rfl, rfl⟩, fun j hj => (h2 j hj).fr (Nat.le_refl _) (fun a x y => e1 a j (by omega) x y) e2 (fun q hq => e4 q ?_) ⟨rfl, rfl⟩, fun j x y => ?_, h4, h5, h6⟩
  · have := h.le' (a := j + 1) (b := A - k) (by omega) (by omega)
    omega
  · rw [e1 1339 j y (by decide) (by decide)]; exact h3 j x y
theorem QT.ps (h : QT κ0 ρ0 sc n mc B z T c0 t κ ρ i st k A S P D) (hi : i < T) (h2 : StM ρ2) (e : Eqv avM ρ ρ2) (tt : TM ρ2 B z (pos B z (i + 1))) : QT κ0 ρ0 sc n mc B z T c0 t (psC κ i) ρ2 (i + 1) st k A S P D := by
  obtain ⟨hP, ⟨m1, m2, m3, m4, m5⟩, ⟨c1, c2, c3, c4⟩, ⟨s1, s2, s3⟩, w, pr, d, ⟨b1, b2, b3⟩, c0n⟩ := h
  have g : ∀ a k, a ≠ 1282 ∨ k < 49 ∨ 53 < k → mI ρ2 a k = mI ρ a k := fun a k h => e.I (by unfold avM; omega)
  have gc : ∀ a k, a ≠ 3 → mI (psC κ i) a k = mI κ a k := fun a k h => I_cl h
  refine ⟨hP.ps hi h2 e tt, ⟨?_, ?_, ?_, ?_, ?_⟩, ⟨?_, ?_, ?_, ?_⟩, ⟨s1.fr fun q hq => g _ _ (Or.inl (by decide)), s2.fr fun q hq => gc _ _ (by decide), fun q hq => ?_⟩, w, pr.fr (fun a j hj x y => g _ _ (Or.inl (by omega))) (fun q hq => g _ _ (Or.inl (by decide))) (fun j => ⟨g _ _ (Or.inl (by decide)), g _ _ (Or.inl (by decide))⟩) (fun q hq => gc _ _ (by decide)), d, ⟨by omega, by omega, by omega⟩, c0n⟩
  · rw [g _ _ (by omega)]; exact m1
  · rw [g _ _ (by omega)]; exact m2
  · rw [g _ _ (by omega)]; exact m3
  · rw [g _ _ (by omega)]; exact m4
  · rw [g _ _ (by omega)]; exact m5
  · rw [gc _ _ (by decide)]; exact c1
  · rw [gc _ _ (by decide)]; exact c2
  · rw [gc _ _ (by decide)]; exact c3
  · rw [gc _ _ (by decide)]; exact c4
  · rw [gc _ _ (by decide)]; exact s3 q hq
end QTM
