/-! the reference's answer to a row is one -/
theorem bdet {c A B A' B' E : Prop} (h : (c → A) ∧ (¬ c → B)) (h' : (c → A') ∧ (¬ c → B')) (k1 : A → A' → E) (k2 : B → B' → E) : E := by
  by_cases e : c
  · exact k1 (h.1 e) (h'.1 e)
  · exact k2 (h.2 e) (h'.2 e)
theorem edet {P P' : Mem → Prop} {s : Mem} {E : Prop} (h : ∀ x, x = s → P x) (h' : ∀ x, x = s → P' x) (k : P s → P' s → E) : E := k (h s rfl) (h' s rfl)
theorem Lw.det {α : Type} {F F' : (α → Prop) → α → Prop} {E : Prop} (hs : ∀ (K K' : α → Prop) (a : α), F K a → F' K' a → (∃ b, K b ∧ K' b) ∨ E) {a : α} (h : Lw F a) (h' : Lw F' a) : E := by
  obtain ⟨n, h⟩ := h
  obtain ⟨m, h'⟩ := h'
  have key : ∀ n m a, Lp F n a → Lp F' m a → E := by
    intro n
    induction n with
    | zero => intro m a h _; exact h.elim
    | succ n ih =>
      intro m a h h'
      cases m with
      | zero => exact h'.elim
      | succ m =>
        rcases hs _ _ a h h' with ⟨b, h1, h2⟩ | e
        · exact ih m b h1 h2
        · exact e
  exact key n m a h h'
section DET
variable {G : Lay} {Q Q' : Int32 → Mem → Prop} {l0 : Nat} {l1 l2 : Int32} {σ : Mem}
theorem d_rootOf (h : X_X12_rootOf G Q l0 l1 σ) (h' : X_X12_rootOf G Q' l0 l1 σ) : ∃ w s, Q w s ∧ Q' w s := by
  refine Lw.det (F := X_X12_rootOf_2_s G Q l0) (F' := X_X12_rootOf_2_s G Q' l0) (fun K K' a x x' => ?_) h h'
  exact bdet x.2.2.2 x'.2.2.2 (fun u u' => Or.inr ⟨_, _, u, u'⟩) (fun u u' => Or.inl ⟨_, u, u'⟩)
theorem d_rowOf (h : X_X12_rowOf G Q l0 l1 l2 σ) (h' : X_X12_rowOf G Q' l0 l1 l2 σ) : ∃ w s, Q w s ∧ Q' w s := by
  refine Lw.det (F := X_X12_rowOf_2_s G Q l0 l1 l2) (F' := X_X12_rowOf_2_s G Q' l0 l1 l2) (fun K K' a x x' => ?_) h h'
  exact bdet x.2 x'.2 (fun u u' => Or.inr ⟨_, _, u, u'⟩) (fun u u' => bdet u.2.2 u'.2.2 (fun u u' => bdet u.2.2 u'.2.2 (fun u u' => Or.inr ⟨_, _, u, u'⟩) (fun u u' => Or.inl ⟨_, u, u'⟩)) (fun u u' => Or.inl ⟨_, u, u'⟩))
theorem d_211 {k : Int32} (h : X_X12_told_211 G Q k σ) (h' : X_X12_told_211 G Q' k σ) : ∃ w s, Q w s ∧ Q' w s := bdet h h' (fun u u' => ⟨_, _, u, u'⟩) (fun u u' => ⟨_, _, u, u'⟩)
theorem d_told (h : X_X12_told G Q l0 l1 l2 σ) (h' : X_X12_told G Q' l0 l1 l2 σ) : ∃ w s, Q w s ∧ Q' w s := by
  obtain ⟨-, -, -, -, -, h⟩ := h
  obtain ⟨-, -, -, -, -, h'⟩ := h'
  refine Lw.det (fun K K' a x x' => ?_) h h'
  obtain ⟨a3, a5, τ⟩ := a
  refine bdet x x' (fun u u' => Or.inr ?_) (fun u u' => bdet u.2.2.2.2.2 u'.2.2.2.2.2 (fun u u' => Or.inr ⟨_, _, u, u'⟩) (fun u u' => ?_))
  · refine bdet u.2.2.2.2.2.2.2 u'.2.2.2.2.2.2.2 (fun u u' => bdet u u' (fun u u' => ⟨_, _, u, u'⟩) (fun u u' => ⟨_, _, u, u'⟩)) (fun u u' => bdet u.2.2.2.2 u'.2.2.2.2 (fun u u' => bdet u u' (fun u u' => d_211 u u') (fun u u' => d_211 u u')) (fun u u' => bdet u u' (fun u u' => bdet u u' (fun u u' => d_211 u u') (fun u u' => d_211 u u')) (fun u u' => bdet u u' (fun u u' => d_211 u u') (fun u u' => d_211 u u'))))
  · obtain ⟨w, s, y, y'⟩ := d_rootOf u.2.2.2.2 u'.2.2.2.2
    obtain ⟨w, s, y, y'⟩ := d_rowOf y y'
    exact Or.inl ⟨_, y, y'⟩
theorem d_134 {K K' : Int32 × Int32 × Mem → Prop} {a b k1 k2 : Int32} {k0 : Nat} (h : X_X12_isTold_134 G Q K l0 l1 a b k0 k1 k2 σ) (h' : X_X12_isTold_134 G Q' K' l0 l1 a b k0 k1 k2 σ) : ∃ c, K c ∧ K' c := edet h.2.2 h'.2.2 fun u u' => ⟨_, u, u'⟩
theorem d_122 {K K' : Int32 × Int32 × Mem → Prop} {a b x y z k1 k2 : Int32} {k0 : Nat} (h : X_X12_isTold_122 G Q K l0 l1 a b x y z k0 k1 k2 σ) (h' : X_X12_isTold_122 G Q' K' l0 l1 a b x y z k0 k1 k2 σ) : ∃ c, K c ∧ K' c := bdet h h' d_134 d_134
theorem d_63 {K K' : Int32 × Int32 × Mem → Prop} {a b : Int32} (h : X_X12_isTold_63 G Q K l0 l1 a b σ) (h' : X_X12_isTold_63 G Q' K' l0 l1 a b σ) : ∃ c, K c ∧ K' c :=
  bdet h.2.2.2.2.2.2 h'.2.2.2.2.2.2 (fun u u' => bdet u.2 u'.2 d_122 d_122) (fun u u' => bdet u.2 u'.2 d_122 d_122)
theorem d_isTold (h : X_X12_isTold G Q l0 l1 σ) (h' : X_X12_isTold G Q' l0 l1 σ) : ∃ w s, Q w s ∧ Q' w s := by
  refine Lw.det (F := X_X12_isTold_4_s G Q l0 l1) (F' := X_X12_isTold_4_s G Q' l0 l1) (fun K K' a x x' => ?_) h h'
  obtain ⟨a2, a3, τ⟩ := a
  refine bdet x.2 x'.2 (fun u u' => Or.inr ?_) (fun u u' => Or.inl ?_)
  · exact bdet u u' (fun u u' => ⟨_, _, u.2, u'.2⟩) (fun u u' => bdet u.2.2 u'.2.2 (fun u u' => ⟨_, _, u.2, u'.2⟩) (fun u u' => ⟨_, _, u.2, u'.2⟩))
  · refine bdet u.2.2 u'.2.2 (fun u u' => edet u.2.2 u'.2.2 fun y y' => ⟨_, y, y'⟩) (fun u u' => bdet u u' d_63 (fun u u' => bdet u u' d_63 (fun u u' => ?_)))
    obtain ⟨w, s, y, y'⟩ := d_told u u'
    exact edet y.2.2 y'.2.2 fun z z' => ⟨_, z, z'⟩
end DET
