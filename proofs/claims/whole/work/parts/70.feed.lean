/-! bytes -/
theorem nar8 (z : Int32) : vp_nar .byte (z.toInt8.toInt32) = z.toInt8.toInt32 := by
  show (z.toInt8.toInt32).toInt8.toInt32 = z.toInt8.toInt32
  simp
theorem byte_ex (y : Int32) : ∃ b, b < 256 ∧ y &&& 255 = nI b ∧ y.toInt8.toInt32 = bb b := by
  refine ⟨y.toBitVec.toNat % 2 ^ 8, Nat.mod_lt _ (by decide), pk_and y 8 (by decide), ?_⟩
  unfold bb
  rw [← pk_and y (m := 255) 8 (by decide)]
  rw [Int32.toInt8_and, show (255 : Int32).toInt8 = -1 from by decide, Int8.and_neg_one]
/-- the i-th byte of a number is the low one of this -/
def yv (w : Int32) (i : Nat) : Int32 := w >>> (nI (24 - 8 * i) &&& 31)
section FEED
variable {G : Lay} {nn nn' sc n r0 : Nat} {mc rt hc K K' N us : Nat → Nat} {κ κ' ρ ρ' κ1 ρ1 : Mem} {u k : Nat}
theorem c_feedNumber (hL : LyC G) (hC : StC κ) {z : Nat} (hz : z + 4 ≤ 3000) (e : mI κ 1 1 = nI z) (w : Int32) : ∃ κ', RunC0 (fun Q σ => X_X11_feedNumber G Q 1 w σ) κ κ' ∧ StC κ' ∧ mI κ' 1 1 = nI (z + 4) ∧ (∀ i, i < 4 → mI κ' 2 (z + i) = (yv w i).toInt8.toInt32) ∧ Eqv (fun a k => ¬ (a = 1 ∧ k = 1 ∨ a = 2 ∧ z ≤ k ∧ k < z + 4)) κ κ' := by
  refine ⟨?k, fun ρ1 Q hQ => ?run, ?st, ?a, ?b, ?c⟩
  case run =>
    simp only [X_X11_feedNumber_40, X_X11_feedNumber_0, X_X11_feedNumber, X_X11_feedNumber_3]
    refine ⟨5, ?_⟩
    show X_X11_feedNumber_3_s G Q 1 w (Lp (X_X11_feedNumber_3_s G Q 1 w) 4) (nI 24, mg _ ρ1)
    simp (disch := omega) only [X_X11_feedNumber_3_s, X_X11_feedNumber_40, mI_c, mR_c, mJ_c, sI_c, sJ_c, sR_c, hL.1, hL.2.1, hL.2.2, hC.1, hC.2.1, hC.2.2.1, nls, lT, lF, tT, tF, eF, pF, zT, e0F, m1F, vT, cI, nI_1, nI_add, pk_mul, true_and, and_true, true_implies, false_implies, not_false_eq_true, not_true_eq_false, bzT1, bzT0, m10, m1z, o0F, forall_eq, implies_true, if_true, if_false, I_is, I_cl, I_sl, J_is, J_cl, J_sl, R_is, R_cl, R_sl, mI_sJ, mI_sR, mJ_sI, mJ_sR, mR_sI, mR_sJ, e, show nI 24 + -nI 8 = nI 16 from by decide, show nI 16 + -nI 8 = nI 8 from by decide, show nI 8 + -nI 8 = nI 0 from by decide, show nI 0 + -nI 8 = -nI 8 from by decide, show (-nI 8 < 0) = True from eq_true (by decide)]
    show X_X11_feedNumber_3_s G Q 1 w (Lp (X_X11_feedNumber_3_s G Q 1 w) 3) (nI 16, mg _ ρ1)
    simp (disch := omega) only [X_X11_feedNumber_3_s, X_X11_feedNumber_40, mI_c, mR_c, mJ_c, sI_c, sJ_c, sR_c, hL.1, hL.2.1, hL.2.2, hC.1, hC.2.1, hC.2.2.1, nls, lT, lF, tT, tF, eF, pF, zT, e0F, m1F, vT, cI, nI_1, nI_add, pk_mul, true_and, and_true, true_implies, false_implies, not_false_eq_true, not_true_eq_false, bzT1, bzT0, m10, m1z, o0F, forall_eq, implies_true, if_true, if_false, I_is, I_cl, I_sl, J_is, J_cl, J_sl, R_is, R_cl, R_sl, mI_sJ, mI_sR, mJ_sI, mJ_sR, mR_sI, mR_sJ, e, show nI 24 + -nI 8 = nI 16 from by decide, show nI 16 + -nI 8 = nI 8 from by decide, show nI 8 + -nI 8 = nI 0 from by decide, show nI 0 + -nI 8 = -nI 8 from by decide, show (-nI 8 < 0) = True from eq_true (by decide)]
    show X_X11_feedNumber_3_s G Q 1 w (Lp (X_X11_feedNumber_3_s G Q 1 w) 2) (nI 8, mg _ ρ1)
    simp (disch := omega) only [X_X11_feedNumber_3_s, X_X11_feedNumber_40, mI_c, mR_c, mJ_c, sI_c, sJ_c, sR_c, hL.1, hL.2.1, hL.2.2, hC.1, hC.2.1, hC.2.2.1, nls, lT, lF, tT, tF, eF, pF, zT, e0F, m1F, vT, cI, nI_1, nI_add, pk_mul, true_and, and_true, true_implies, false_implies, not_false_eq_true, not_true_eq_false, bzT1, bzT0, m10, m1z, o0F, forall_eq, implies_true, if_true, if_false, I_is, I_cl, I_sl, J_is, J_cl, J_sl, R_is, R_cl, R_sl, mI_sJ, mI_sR, mJ_sI, mJ_sR, mR_sI, mR_sJ, e, show nI 24 + -nI 8 = nI 16 from by decide, show nI 16 + -nI 8 = nI 8 from by decide, show nI 8 + -nI 8 = nI 0 from by decide, show nI 0 + -nI 8 = -nI 8 from by decide, show (-nI 8 < 0) = True from eq_true (by decide)]
    show X_X11_feedNumber_3_s G Q 1 w (Lp (X_X11_feedNumber_3_s G Q 1 w) 1) (nI 0, mg _ ρ1)
    simp (disch := omega) only [X_X11_feedNumber_3_s, X_X11_feedNumber_40, mI_c, mR_c, mJ_c, sI_c, sJ_c, sR_c, hL.1, hL.2.1, hL.2.2, hC.1, hC.2.1, hC.2.2.1, nls, lT, lF, tT, tF, eF, pF, zT, e0F, m1F, vT, cI, nI_1, nI_add, pk_mul, true_and, and_true, true_implies, false_implies, not_false_eq_true, not_true_eq_false, bzT1, bzT0, m10, m1z, o0F, forall_eq, implies_true, if_true, if_false, I_is, I_cl, I_sl, J_is, J_cl, J_sl, R_is, R_cl, R_sl, mI_sJ, mI_sR, mJ_sI, mJ_sR, mR_sI, mR_sJ, e, show nI 24 + -nI 8 = nI 16 from by decide, show nI 16 + -nI 8 = nI 8 from by decide, show nI 8 + -nI 8 = nI 0 from by decide, show nI 0 + -nI 8 = -nI 8 from by decide, show (-nI 8 < 0) = True from eq_true (by decide)]
    show X_X11_feedNumber_3_s G Q 1 w (Lp (X_X11_feedNumber_3_s G Q 1 w) 0) (-nI 8, mg _ ρ1)
    simp (disch := omega) only [X_X11_feedNumber_3_s, X_X11_feedNumber_40, mI_c, mR_c, mJ_c, sI_c, sJ_c, sR_c, hL.1, hL.2.1, hL.2.2, hC.1, hC.2.1, hC.2.2.1, nls, lT, lF, tT, tF, eF, pF, zT, e0F, m1F, vT, cI, nI_1, nI_add, pk_mul, true_and, and_true, true_implies, false_implies, not_false_eq_true, not_true_eq_false, bzT1, bzT0, m10, m1z, o0F, forall_eq, implies_true, if_true, if_false, I_is, I_cl, I_sl, J_is, J_cl, J_sl, R_is, R_cl, R_sl, mI_sJ, mI_sR, mJ_sI, mJ_sR, mR_sI, mR_sJ, e, show nI 24 + -nI 8 = nI 16 from by decide, show nI 16 + -nI 8 = nI 8 from by decide, show nI 8 + -nI 8 = nI 0 from by decide, show nI 0 + -nI 8 = -nI 8 from by decide, show (-nI 8 < 0) = True from eq_true (by decide)]
    exact hQ
  case st => exact hC
  case a => simp (disch := omega) only [I_is, I_cl, I_sl, J_is, J_cl, J_sl, R_is, R_cl, R_sl, mI_sJ, mI_sR, mJ_sI, mJ_sR, mR_sI, mR_sJ]
  case b =>
    intro i hi
    have : i = 0 ∨ i = 1 ∨ i = 2 ∨ i = 3 := by omega
    rcases this with rfl | rfl | rfl | rfl <;> simp (disch := omega) only [I_is, I_cl, I_sl, J_is, J_cl, J_sl, R_is, R_cl, R_sl, mI_sJ, mI_sR, mJ_sI, mJ_sR, mR_sI, mR_sJ, Nat.add_zero, nar8] <;> rfl
  case c =>
    refine ((((((((Eqv.rf.sI ?_ _).sI ?_ _).sI ?_ _).sI ?_ _).sI ?_ _).sI ?_ _).sI ?_ _).sI ?_ _) <;> omega
end FEED
