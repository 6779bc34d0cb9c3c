/-! the loop over the script, out of the joint proofs of the calls -/
section LOOP
variable {G : Lay} {nn : Nat} {κ ρ : Mem}
theorem jt_i {X Y : (Int32 → Mem → Prop) → Mem → Prop} {K : Int32 × Mem → Prop} {z : Int32} (h : Jt nn X Y κ ρ) (hk : ∀ κ' ρ', Rel (nn + 1) κ' ρ' → K (z, mg κ' ρ')) (hY : True) : X (fun w s => Y (fun w' s' => ((w = w' → K (z, s')) ∧ (¬ w = w' → False))) s) (mg κ ρ) := by
  obtain ⟨w, κ', ρ', hc, hm, hr⟩ := h
  exact hc ρ _ (hm κ' _ ⟨fun _ => hk κ' ρ' hr, fun e => e rfl⟩)
theorem lgc (x : Int64) : lg_cmp x x = 0 := by
  simp [lg_cmp]
theorem jt_l {X Y : (Int64 → Mem → Prop) → Mem → Prop} {K : Int32 × Mem → Prop} {z : Int32} (h : Jt nn X Y κ ρ) (hk : ∀ κ' ρ', Rel (nn + 1) κ' ρ' → K (z, mg κ' ρ')) (hY : True) : X (fun w s => Y (fun w' s' => (((lg_cmp w w') = 0 → K (z, s')) ∧ (¬ (lg_cmp w w') = 0 → False))) s) (mg κ ρ) := by
  obtain ⟨w, κ', ρ', hc, hm, hr⟩ := h
  exact hc ρ _ (hm κ' _ ⟨fun _ => hk κ' ρ' hr, fun e => e (lgc w)⟩)
theorem loop_of (hG : Ly G) (h_map : ∀ (nn : Nat) (κ ρ : Mem), nn ≤ 512 → Rel nn κ ρ → Jt nn (fun Q σ => X_X11_map G Q 1 σ) (fun Q σ => X_X12_map G Q 1282 σ) κ ρ) (h_close : ∀ (nn : Nat) (κ ρ : Mem) (a b : Int32), nn ≤ 512 → Rel nn κ ρ → Jt nn (fun Q σ => X_X11_close G Q 1 a b σ) (fun Q σ => X_X12_close G Q 1282 a b σ) κ ρ) (h_flush : ∀ (nn : Nat) (κ ρ : Mem) (a : Int32), nn ≤ 512 → Rel nn κ ρ → Jt nn (fun Q σ => X_X11_flush G Q 1 a σ) (fun Q σ => X_X12_flush G Q 1282 a σ) κ ρ) (h_ask : ∀ (nn : Nat) (κ ρ : Mem) (a : Int32), nn ≤ 512 → Rel nn κ ρ → Jt nn (fun Q σ => X_X11_ask G Q 1 a σ) (fun Q σ => X_X12_ask G Q 1282 a σ) κ ρ) (h0 : Rel 0 κ ρ) (xs : Nat → Int32) (L : Nat) (hL : L ≤ 3072) : X_L G xs L 1 1282 (mg κ ρ) := by
  by_cases h6 : L < 6
  · exact loop_short h6 _ _ _
  unfold X_L
  refine Lw.nat 512 (fun i y => ∃ κ ρ, y = (nI (6 * i), mg κ ρ) ∧ Rel i κ ρ) ?_ 0 (Nat.zero_le _) _ ⟨κ, ρ, rfl, h0⟩
  rintro K' i y hi ⟨κ, ρ, rfl, h⟩ hk
  have eL : Int32.ofNat L - (6 : Int32) = nI (L - 6) := pk_sub (a := L) (b := 6) (by omega)
  unfold X_L_s
  rw [eL]
  refine ⟨fun _ => trivial, fun hc => ?_⟩
  have hle : 6 * i + 6 ≤ L := by
    have := Int32.not_lt.mp hc
    rw [lI (by omega) (by omega)] at this
    omega
  have hK : ∀ κ' ρ', Rel (i + 1) κ' ρ' → K' (nI (6 * i + 6), mg κ' ρ') := fun κ' ρ' hr => hk _ (by omega) ⟨κ', ρ', rfl, hr⟩
  refine ⟨(vI (by omega)).mpr (by omega), fun _ => ?_, fun _ => ?_, fun _ => ?_, fun _ => ?_, fun _ => ?_, fun _ => ?_, fun _ => ?_, fun _ => ?_, fun _ => ?_, fun _ => ?_, fun _ => ?_, fun _ => ?_, fun _ => ?_, fun _ => ?_, fun _ => ?_, fun _ => ?_, fun _ => ?_, fun _ => ?_, fun _ => ?_, fun _ => ?_, fun _ => ?_, fun _ => ?_, fun _ => ?_, fun _ => ?_, fun _ => ?_, fun _ => ?_, fun _ => ?_⟩
  · have e := jt_i (j_feed hG h (xs (6 * i + 1)) (xs (6 * i + 2)) (xs (6 * i + 3)) (xs (6 * i + 4)) (xs (6 * i + 5))) hK trivial
    simp (disch := omega) only [X_L_c0, show (1 : Int32) = nI 1 from rfl, show (2 : Int32) = nI 2 from rfl, show (3 : Int32) = nI 3 from rfl, show (4 : Int32) = nI 4 from rfl, show (5 : Int32) = nI 5 from rfl, show (6 : Int32) = nI 6 from rfl, nI_add, vT, cI, true_and]
    exact e
  · have e := jt_i (j_end hG h (xs (6 * i + 1))) hK trivial
    simp (disch := omega) only [X_L_c1, show (1 : Int32) = nI 1 from rfl, show (2 : Int32) = nI 2 from rfl, show (3 : Int32) = nI 3 from rfl, show (4 : Int32) = nI 4 from rfl, show (5 : Int32) = nI 5 from rfl, show (6 : Int32) = nI 6 from rfl, nI_add, vT, cI, true_and]
    exact e
  · have e := jt_i (h_map i κ ρ hi h) hK trivial
    simp (disch := omega) only [X_L_c2, show (1 : Int32) = nI 1 from rfl, show (2 : Int32) = nI 2 from rfl, show (3 : Int32) = nI 3 from rfl, show (4 : Int32) = nI 4 from rfl, show (5 : Int32) = nI 5 from rfl, show (6 : Int32) = nI 6 from rfl, nI_add, vT, cI, true_and]
    exact e
  · have e := jt_i (j_fault hG h (xs (6 * i + 1))) hK trivial
    simp (disch := omega) only [X_L_c3, show (1 : Int32) = nI 1 from rfl, show (2 : Int32) = nI 2 from rfl, show (3 : Int32) = nI 3 from rfl, show (4 : Int32) = nI 4 from rfl, show (5 : Int32) = nI 5 from rfl, show (6 : Int32) = nI 6 from rfl, nI_add, vT, cI, true_and]
    exact e
  · have e := jt_i (j_look hG h (xs (6 * i + 1)) (xs (6 * i + 2))) hK trivial
    simp (disch := omega) only [X_L_c4, show (1 : Int32) = nI 1 from rfl, show (2 : Int32) = nI 2 from rfl, show (3 : Int32) = nI 3 from rfl, show (4 : Int32) = nI 4 from rfl, show (5 : Int32) = nI 5 from rfl, show (6 : Int32) = nI 6 from rfl, nI_add, vT, cI, true_and]
    exact e
  · have e := jt_i (j_member hG h (xs (6 * i + 1)) (xs (6 * i + 2)) (xs (6 * i + 3))) hK trivial
    simp (disch := omega) only [X_L_c5, show (1 : Int32) = nI 1 from rfl, show (2 : Int32) = nI 2 from rfl, show (3 : Int32) = nI 3 from rfl, show (4 : Int32) = nI 4 from rfl, show (5 : Int32) = nI 5 from rfl, show (6 : Int32) = nI 6 from rfl, nI_add, vT, cI, true_and]
    exact e
  · have e := jt_i (j_unit hG h) hK trivial
    simp (disch := omega) only [X_L_c6, show (1 : Int32) = nI 1 from rfl, show (2 : Int32) = nI 2 from rfl, show (3 : Int32) = nI 3 from rfl, show (4 : Int32) = nI 4 from rfl, show (5 : Int32) = nI 5 from rfl, show (6 : Int32) = nI 6 from rfl, nI_add, vT, cI, true_and]
    exact e
  · have e := jt_i (h_close i κ ρ (xs (6 * i + 1)) (xs (6 * i + 2)) hi h) hK trivial
    simp (disch := omega) only [X_L_c7, show (1 : Int32) = nI 1 from rfl, show (2 : Int32) = nI 2 from rfl, show (3 : Int32) = nI 3 from rfl, show (4 : Int32) = nI 4 from rfl, show (5 : Int32) = nI 5 from rfl, show (6 : Int32) = nI 6 from rfl, nI_add, vT, cI, true_and]
    exact e
  · have e := jt_i (h_flush i κ ρ (xs (6 * i + 1)) hi h) hK trivial
    simp (disch := omega) only [X_L_c8, show (1 : Int32) = nI 1 from rfl, show (2 : Int32) = nI 2 from rfl, show (3 : Int32) = nI 3 from rfl, show (4 : Int32) = nI 4 from rfl, show (5 : Int32) = nI 5 from rfl, show (6 : Int32) = nI 6 from rfl, nI_add, vT, cI, true_and]
    exact e
  · have e := jt_i (j_outcome hG h (xs (6 * i + 1))) hK trivial
    simp (disch := omega) only [X_L_c9, show (1 : Int32) = nI 1 from rfl, show (2 : Int32) = nI 2 from rfl, show (3 : Int32) = nI 3 from rfl, show (4 : Int32) = nI 4 from rfl, show (5 : Int32) = nI 5 from rfl, show (6 : Int32) = nI 6 from rfl, nI_add, vT, cI, true_and]
    exact e
  · have e := jt_i (j_write hG h (xs (6 * i + 1)) (xs (6 * i + 2))) hK trivial
    simp (disch := omega) only [X_L_c10, show (1 : Int32) = nI 1 from rfl, show (2 : Int32) = nI 2 from rfl, show (3 : Int32) = nI 3 from rfl, show (4 : Int32) = nI 4 from rfl, show (5 : Int32) = nI 5 from rfl, show (6 : Int32) = nI 6 from rfl, nI_add, vT, cI, true_and]
    exact e
  · have e := jt_i (j_make hG hi h (xs (6 * i + 1)) (xs (6 * i + 2))) hK trivial
    simp (disch := omega) only [X_L_c11, show (1 : Int32) = nI 1 from rfl, show (2 : Int32) = nI 2 from rfl, show (3 : Int32) = nI 3 from rfl, show (4 : Int32) = nI 4 from rfl, show (5 : Int32) = nI 5 from rfl, show (6 : Int32) = nI 6 from rfl, nI_add, vT, cI, true_and]
    exact e
  · have e := jt_i (j_find hG hi h (xs (6 * i + 1)) (xs (6 * i + 2)) (xs (6 * i + 3))) hK trivial
    simp (disch := omega) only [X_L_c12, show (1 : Int32) = nI 1 from rfl, show (2 : Int32) = nI 2 from rfl, show (3 : Int32) = nI 3 from rfl, show (4 : Int32) = nI 4 from rfl, show (5 : Int32) = nI 5 from rfl, show (6 : Int32) = nI 6 from rfl, nI_add, vT, cI, true_and]
    exact e
  · have e := jt_i (j_object hG h (xs (6 * i + 1)) (xs (6 * i + 2))) hK trivial
    simp (disch := omega) only [X_L_c13, show (1 : Int32) = nI 1 from rfl, show (2 : Int32) = nI 2 from rfl, show (3 : Int32) = nI 3 from rfl, show (4 : Int32) = nI 4 from rfl, show (5 : Int32) = nI 5 from rfl, show (6 : Int32) = nI 6 from rfl, nI_add, vT, cI, true_and]
    exact e
  · have e := jt_l (j_value hG hi h (xs (6 * i + 1)) (xs (6 * i + 2))) hK trivial
    simp (disch := omega) only [X_L_c14, show (1 : Int32) = nI 1 from rfl, show (2 : Int32) = nI 2 from rfl, show (3 : Int32) = nI 3 from rfl, show (4 : Int32) = nI 4 from rfl, show (5 : Int32) = nI 5 from rfl, show (6 : Int32) = nI 6 from rfl, nI_add, vT, cI, true_and]
    exact e
  · have e := jt_i (j_put hG h (xs (6 * i + 1)) (xs (6 * i + 2)) (xs (6 * i + 3))) hK trivial
    simp (disch := omega) only [X_L_c15, show (1 : Int32) = nI 1 from rfl, show (2 : Int32) = nI 2 from rfl, show (3 : Int32) = nI 3 from rfl, show (4 : Int32) = nI 4 from rfl, show (5 : Int32) = nI 5 from rfl, show (6 : Int32) = nI 6 from rfl, nI_add, vT, cI, true_and]
    exact e
  · have e := jt_i (j_link hG h (xs (6 * i + 1)) (xs (6 * i + 2)) (xs (6 * i + 3))) hK trivial
    simp (disch := omega) only [X_L_c16, show (1 : Int32) = nI 1 from rfl, show (2 : Int32) = nI 2 from rfl, show (3 : Int32) = nI 3 from rfl, show (4 : Int32) = nI 4 from rfl, show (5 : Int32) = nI 5 from rfl, show (6 : Int32) = nI 6 from rfl, nI_add, vT, cI, true_and]
    exact e
  · have e := jt_i (j_size hG h (xs (6 * i + 1)) (xs (6 * i + 2))) hK trivial
    simp (disch := omega) only [X_L_c17, show (1 : Int32) = nI 1 from rfl, show (2 : Int32) = nI 2 from rfl, show (3 : Int32) = nI 3 from rfl, show (4 : Int32) = nI 4 from rfl, show (5 : Int32) = nI 5 from rfl, show (6 : Int32) = nI 6 from rfl, nI_add, vT, cI, true_and]
    exact e
  · have e := jt_i (j_item hG hi h (xs (6 * i + 1)) (xs (6 * i + 2)) (xs (6 * i + 3))) hK trivial
    simp (disch := omega) only [X_L_c18, show (1 : Int32) = nI 1 from rfl, show (2 : Int32) = nI 2 from rfl, show (3 : Int32) = nI 3 from rfl, show (4 : Int32) = nI 4 from rfl, show (5 : Int32) = nI 5 from rfl, show (6 : Int32) = nI 6 from rfl, nI_add, vT, cI, true_and]
    exact e
  · have e := jt_i (j_drop hG hi h (xs (6 * i + 1))) hK trivial
    simp (disch := omega) only [X_L_c19, show (1 : Int32) = nI 1 from rfl, show (2 : Int32) = nI 2 from rfl, show (3 : Int32) = nI 3 from rfl, show (4 : Int32) = nI 4 from rfl, show (5 : Int32) = nI 5 from rfl, show (6 : Int32) = nI 6 from rfl, nI_add, vT, cI, true_and]
    exact e
  · have e := jt_i (j_loads hG h (xs (6 * i + 1))) hK trivial
    simp (disch := omega) only [X_L_c20, show (1 : Int32) = nI 1 from rfl, show (2 : Int32) = nI 2 from rfl, show (3 : Int32) = nI 3 from rfl, show (4 : Int32) = nI 4 from rfl, show (5 : Int32) = nI 5 from rfl, show (6 : Int32) = nI 6 from rfl, nI_add, vT, cI, true_and]
    exact e
  · have e := jt_i (j_other hG hi h (xs (6 * i + 1)) (xs (6 * i + 2)) (xs (6 * i + 3)) (xs (6 * i + 4))) hK trivial
    simp (disch := omega) only [X_L_c21, show (1 : Int32) = nI 1 from rfl, show (2 : Int32) = nI 2 from rfl, show (3 : Int32) = nI 3 from rfl, show (4 : Int32) = nI 4 from rfl, show (5 : Int32) = nI 5 from rfl, show (6 : Int32) = nI 6 from rfl, nI_add, vT, cI, true_and]
    exact e
  · have e := jt_l (j_cell hG h (xs (6 * i + 1)) (xs (6 * i + 2)) (xs (6 * i + 3))) hK trivial
    simp (disch := omega) only [X_L_c22, show (1 : Int32) = nI 1 from rfl, show (2 : Int32) = nI 2 from rfl, show (3 : Int32) = nI 3 from rfl, show (4 : Int32) = nI 4 from rfl, show (5 : Int32) = nI 5 from rfl, show (6 : Int32) = nI 6 from rfl, nI_add, vT, cI, true_and]
    exact e
  · have e := jt_i (h_ask i κ ρ (xs (6 * i + 1)) hi h) hK trivial
    simp (disch := omega) only [X_L_c23, show (1 : Int32) = nI 1 from rfl, show (2 : Int32) = nI 2 from rfl, show (3 : Int32) = nI 3 from rfl, show (4 : Int32) = nI 4 from rfl, show (5 : Int32) = nI 5 from rfl, show (6 : Int32) = nI 6 from rfl, nI_add, vT, cI, true_and]
    exact e
  · have e := jt_i (j_found hG h (xs (6 * i + 1))) hK trivial
    simp (disch := omega) only [X_L_c24, show (1 : Int32) = nI 1 from rfl, show (2 : Int32) = nI 2 from rfl, show (3 : Int32) = nI 3 from rfl, show (4 : Int32) = nI 4 from rfl, show (5 : Int32) = nI 5 from rfl, show (6 : Int32) = nI 6 from rfl, nI_add, vT, cI, true_and]
    exact e
  · have e := jt_i (j_count hG h (xs (6 * i + 1))) hK trivial
    simp (disch := omega) only [X_L_c25, show (1 : Int32) = nI 1 from rfl, show (2 : Int32) = nI 2 from rfl, show (3 : Int32) = nI 3 from rfl, show (4 : Int32) = nI 4 from rfl, show (5 : Int32) = nI 5 from rfl, show (6 : Int32) = nI 6 from rfl, nI_add, vT, cI, true_and]
    exact e
  · rw [show (6 : Int32) = nI 6 from rfl, nI_add]
    exact hK κ ρ h.up
end LOOP
