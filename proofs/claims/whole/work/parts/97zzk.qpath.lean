/-! readPath, side by side -/
def Pth (n : Nat) (mc : Nat → Nat) (ρ : Mem) (c0 S cnt c : Nat) : Prop := ∃ cs : Nat → Nat, cs 0 = c0 ∧ cs cnt = c ∧ ∀ q, q < cnt → cs q < n ∧ ∃ m, m < mc (cs q) ∧ mI ρ 1344 (S + q) = nI m ∧ mI ρ 1290 (16 * cs q + m) = 4 ∧ mI ρ 1291 (16 * cs q + m) = nI (cs (q + 1))
def pfC (p0 a k : Nat) : Prop := ¬ (a = 3 ∧ k = 4 ∨ a = 8 ∧ k = 1 ∨ a = 9 ∧ p0 + 1 ≤ k)
def pfM (S a k : Nat) : Prop := ¬ (a = 1282 ∧ (49 ≤ k ∧ k ≤ 53 ∨ k = 87) ∨ a = 1344 ∧ S ≤ k)
def PthI (κ0 ρ0 : Mem) (sc n : Nat) (mc : Nat → Nat) (B : Nat → Nat) (z T : Nat) (κa ρa : Mem) (c0 S p0 L : Nat) (κ ρ : Mem) (i c nn : Nat) : Prop := QP κ0 ρ0 sc B z T κ ρ i ∧ (mI κ 8 1 = nI (p0 + 2 + nn) ∧ mI ρ 1282 87 = nI (S + nn)) ∧ (∀ q, q < nn → mI κ 9 (p0 + 2 + q) = mI ρ 1344 (S + q)) ∧ (c < n ∧ Pth n mc ρ c0 S nn c) ∧ (Eqv (pfC p0) κa κ ∧ Eqv (pfM S) ρa ρ) ∧ (p0 + 4 + L + 4 * nn ≤ 2 * i ∧ S + nn ≤ i ∧ 2 * nn + 2 ≤ i)
def PthE (κ0 ρ0 : Mem) (sc n : Nat) (mc : Nat → Nat) (B : Nat → Nat) (z T : Nat) (κa ρa : Mem) (tr : Int32) (c0 S p0 L : Nat) (κ ρ : Mem) (i c m nn : Nat) : Prop := QP κ0 ρ0 sc B z T κ ρ i ∧ (mI κ 8 1 = nI (p0 + 3 + nn) ∧ mI κ 9 (p0 + 1) = nI (nn + 1) ∧ mI ρ 1282 87 = nI (S + nn + 1)) ∧ (∀ q, q < nn + 1 → mI κ 9 (p0 + 2 + q) = mI ρ 1344 (S + q)) ∧ (c < n ∧ m < mc c ∧ Pth n mc ρ c0 S nn c ∧ mI ρ 1344 (S + nn) = nI m) ∧ (Eqv (pfC p0) κa κ ∧ Eqv (pfM S) ρa ρ) ∧ (p0 + 6 + L + 4 * nn ≤ 2 * i ∧ S + nn + 1 ≤ i) ∧ ∃ kd, kd ≤ 5 ∧ mI ρ 1290 (16 * c + m) = nI kd ∧ (tr = 0 → kd < 4) ∧ (¬ tr = 0 → kd = 4)
section QPB
variable {G : Lay} {κ1 ρ : Mem} {s : Nat} {w : Int32}
theorem m_stp (hM : LyM G) (hm : StM ρ) (e : mI ρ 1282 87 = nI s) (hs : s < 3200) {Q : Mem → Prop} (q : Q (mg κ1 (sI (sI ρ 1344 s w) 1282 87 (nI (s + 1))))) : gT G (mR (mg κ1 ρ) 1282 86) = 100 ∧ vp_in (nI s) (gL G (mR (mg κ1 ρ) 1282 86)) ∧ ∀ s19, s19 = sI (mg κ1 ρ) (mR (mg κ1 ρ) 1282 86) (nI s).toNatClampNeg w → ∀ s20, s20 = sI s19 1282 87 ((mI s19 1282 87) + (1 : Int32)) → Q s20 := by
  simp (disch := omega) only [mI_m, mR_m, mJ_m, sI_m, sJ_m, hM.1, hM.2, hm.1, hm.2, lT, lF, tT, tF, eF, pF, zT, m1F, vT, cI, true_and, and_true, true_implies, false_implies, not_false_eq_true, not_true_eq_false, forall_eq, implies_true, I_is, I_cl, I_sl, J_is, J_cl, J_sl, R_is, R_cl, R_sl, mI_sJ, mI_sR, mJ_sI, mJ_sR, mR_sI, mR_sJ, e, nI_1]
  exact q
end QPB
section QPA
variable {G : Lay} {κ0 ρ0 κa ρa κ κ' ρ ρ' ρ2 κ1 ρ1 : Mem} {sc n z T c0 S p0 L : Nat} {B : Nat → Nat} {mc rt hc : Nat → Nat} {tr : Int32}
theorem j_path (hG : Ly G) (hS : RelS sc n mc rt hc κ0 ρ0) (hN : RelN sc n mc κ0 ρ0) : ∀ d i c nn κ ρ x0 k0, T - i = d → PthI κ0 ρ0 sc n mc B z T κa ρa c0 S p0 L κ ρ i c nn → (∃ κ' ρ', Fq κ0 ρ0 κ' ρ' ∧ (∀ ρ1 (Q : Nat → Mem → Prop), Q 0 (mg κ' ρ1) → Lw (X_X4_readPath_33_s G Q 11 tr (nI (p0 + 1))) (nI c, 1, x0, nI (nn + 1), mg κ ρ1)) ∧ ∀ κ1 (Q : Int32 → Mem → Prop), Q 0 (mg κ1 ρ') → Lw (X_X12_readPath_16_s G Q 1282 tr (nI S)) (nI c, k0, 1, mg κ1 ρ)) ∨ ∃ κ' ρ' i' c' m' nn', i < i' ∧ PthE κ0 ρ0 sc n mc B z T κa ρa tr c0 S p0 L κ' ρ' i' c' m' nn' ∧ (∀ ρ1 (Q : Nat → Mem → Prop), Q (mR κ0 (sc + 5 + 5 * c') m') (mg κ' ρ1) → Lw (X_X4_readPath_33_s G Q 11 tr (nI (p0 + 1))) (nI c, 1, x0, nI (nn + 1), mg κ ρ1)) ∧ ∀ κ1 (Q : Int32 → Mem → Prop), (∀ c2, Lw (X_X12_readPath_16_s G Q 1282 tr (nI S)) (c2, nI (16 * c' + m'), 0, mg κ1 ρ')) → Lw (X_X12_readPath_16_s G Q 1282 tr (nI S)) (nI c, k0, 1, mg κ1 ρ) := by
  have hL := hG.1
  have hM := hG.2.2.2
  have hs := hS.1
  have hT := hG.s hs
  have i110 : ∀ {κ ρ1 : Mem}, StC κ → mR (mg κ ρ1) 11 0 = 3 := fun {κ ρ1} hC => (mR_c (by decide) _).trans hC.1.2.2.2.2.2.2.2.2.2.2.2.2.2.2.2.2.1
  have i111 : ∀ {κ ρ1 : Mem}, StC κ → mR (mg κ ρ1) 11 1 = 8 := fun {κ ρ1} hC => (mR_c (by decide) _).trans hC.1.2.2.2.2.2.2.2.2.2.2.2.2.2.2.2.2.2.1
  have g9 : gT G 3 = 9 := hL.1.2.2.2.1
  have g4 : gT G 8 = 4 := hL.1.2.2.2.2.2.2.2.2.2.2.2.1
  have g5 : gT G 11 = 5 := hL.1.2.2.2.2.2.2.2.2.2.2.2.2.2.2.2.2.1
  have n16 : (16 : Int32) = nI 16 := rfl
  have n4 : (4 : Int32) = nI 4 := rfl
  have o1 : ¬ (1 : Int32) = 0 := by decide
  have z1f : ((1 : Int32) = 0) = False := eq_false o1
  intro d
  induction d using Nat.strongRecOn with
  | _ d ih =>
    intro i c nn κ ρ x0 k0 hd hI
    obtain ⟨hP, ⟨l1, s1⟩, cd1, ⟨hcn, hpt⟩, ⟨fC1, fM1⟩, b1, b2, b3⟩ := id hI
    obtain ⟨⟨hC, hm⟩, ⟨hTC, hTM⟩, -, h112⟩ := id hP
    have hz := hTC.zz
    have xS := hP.S hS
    have xN := hP.N hS hN
    have h12 := xS.le
    have mc16 := xS.m16 hcn
    have l30 : ¬ (3000 : Int32) < nI (nn + 1) := fun e => by
      have := (tI (a := 3000) (by decide) (by omega)).mp e
      omega
    have qx : ∀ m, mR κ0 (sc + 5 + 5 * c) m = mR κ (sc + 5 + 5 * c) m := fun m => (hP.2.2.1.1.R (by unfold qpC; omega)).symm
    have i112 : ∀ ρ1, mR (mg κ ρ1) 11 2 = sc := fun ρ1 => (mR_c (by decide) _).trans h112
    by_cases hn : nmT B z (pos B z i)
    · have hi : i < T := hTC.lt (by rw [hn.1]; decide)
      have hw := wd_rel hTM.lo hn.1
      have e52 : mJ ρ 1282 52 = wdy B z (pos B z i) := hTM.2.2.2.2.1 hn.1
      have e49 : mI ρ 1282 49 = nI (pos B z i) := hTM.2.1
      have hr : ∀ j, j < mc c → sc + 64 ≤ mR κ (sc + 5 + 5 * c) j ∧ mR κ (sc + 5 + 5 * c) j < sc + 256 := fun j hj => (xS.mem hcn hj).1
      have ef : fdx (fun j => mJ κ (mR κ (sc + 5 + 5 * c) j) 0) (wdx B z (pos B z i)) (mc c) = fdx (fun j => mJ ρ 1289 (16 * c + j)) (wdy B z (pos B z i)) (mc c) := fdx_cg _ fun j hj => ((xN.2 c hcn j hj).1).iff hw
      -- up to the member's name
      have goC : ∀ ρ1 (Q : Nat → Mem → Prop) (K : Int32 × Int32 × Nat × Int32 × Mem → Prop), X_X6_memberAt G (fun w13 s12 => gT G (mR s12 11 0) = 9 ∧ X_X8_isAhead G (fun w16 s15 => ((w13 = 0 → X_X4_readPath_123 G Q 11 s15) ∧ (¬ w13 = 0 → X_X4_canStand G (fun w18 s17 => ((w18 = 0 → X_X4_readPath_123 G Q 11 s17) ∧ (¬ w18 = 0 → gT G (mR s17 11 1) = 4 ∧ X_X3_add G (fun s20 => gT G (mR s20 11 1) = 4 ∧ X_X3_set G (fun s22 => gT G (mR s22 11 0) = 9 ∧ X_X8_pass G (fun s24 => ((w16 = 0 → X_X4_readPath_178 G Q K 11 tr (nI (p0 + 1)) (nI c) w16 w13 (nI (nn + 1)) s24) ∧ (¬ w16 = 0 → gT G (mR s24 11 0) = 9 ∧ X_X8_pass G (fun s26 => gT G w13 = 3 ∧ X_X4_readPath_178 G Q K 11 tr (nI (p0 + 1)) (mI s26 w13 8) w16 w13 (nI (nn + 1)) s26) (mR s24 11 0) s24))) (mR s22 11 0) s22) (mR s20 11 1) (nI (p0 + 1)) (nI (nn + 1)) s20) (mR s17 11 1) (fdx (fun j => mJ ρ 1289 (16 * c + j)) (wdy B z (pos B z i)) (mc c)) s17))) w13 w16 tr s15))) (mR s12 11 0) (46 : Int64) s12) sc (nI c) (fdx (fun j => mJ ρ 1289 (16 * c + j)) (wdy B z (pos B z i)) (mc c)) (mg κ ρ1) → X_X4_readPath_33_s G Q 11 tr (nI (p0 + 1)) K (nI c, 1, x0, nI (nn + 1), mg κ ρ1) := fun ρ1 Q K hh => by
        refine brF l30 (brF o1 ?_)
        rw [i110 hC]
        refine ⟨g5, g9, c_isName1 hL hC hTC hn (br1 ?_)⟩
        rw [i110 hC]
        refine ⟨g9, c_word hL hC hTC hn.1 ?_⟩
        rw [i112]
        refine ⟨hT.1.1, c_mbNamed hG hC hs xS.nC h12 hcn (xS.cls hcn).2.2.2.1 mc16 hr ?_⟩
        rw [i112, ef]
        exact ⟨hT.1.1, hh⟩
      rcases fdx_cases (f := fun j => mJ ρ 1289 (16 * c + j)) (v := wdy B z (pos B z i)) (mc c) (by omega) with ⟨eb, -⟩ | ⟨m, hmc, eb, -⟩
      · -- no such member
        have cls : ∀ ρ1 (Q : Nat → Mem → Prop), Q 0 (mg (flC κ 3 (pos B z i)) ρ1) → X_X4_readPath_123 G Q 11 (mg κ ρ1) := fun ρ1 Q hQ => by
          unfold X_X4_readPath_123
          rw [i110 hC]
          exact ⟨g5, g9, c_refuse hL hC hTC hQ⟩
        refine Or.inl ⟨_, _, hP.fail 3 (p := pos B z i), fun ρ1 Q hQ => Lw.fin (fun K => goC ρ1 Q K ?_), fun κ1 Q hQ => Lw.fin (fun K => brF o1 ⟨hM.1, m_isName1 hM hTM hn (br1 ?_)⟩)⟩
        · rw [eb]
          refine c_mbAt0 hG hC hs xS.nC h12 hcn ?_
          rw [i110 hC]
          refine ⟨g9, ?_⟩
          by_cases ad : sgA B z (pos B z (i + 1)) 46
          · exact c_isAhead1 (s := 46) hL hC hTC hi (by decide) ad (brT rfl (cls ρ1 Q hQ))
          · exact c_isAhead0 (s := 46) hL hC hTC hi (by decide) hTM.lo ad (brT rfl (cls ρ1 Q hQ))
        · rw [mJ_m (by decide), e52]
          refine m_mbNamed0 hM hm (by omega) (xS.cls hcn).2.2.2.2.1 mc16 ?_
          rw [eb]
          exact brF (by decide) (m_fails hM hTM ⟨bz0, hQ⟩)
      · obtain ⟨⟨kd, kd1, kd2, kd3, kd4, kd5⟩, -⟩ := xS.2.2.2.2.2.2.2.2.2.1 c hcn m hmc
        obtain ⟨mx1, mx2, mx3, mx4, mx5, mx6, mx7⟩ := xS.mem hcn hmc
        obtain ⟨x, ex⟩ : ∃ x, x = mR κ (sc + 5 + 5 * c) m := ⟨_, rfl⟩
        have ex0 : mR κ0 (sc + 5 + 5 * c) m = x := by rw [ex]; exact qx m
        rw [← ex] at mx1 mx3 mx6
        have gx : gT G x = 3 := by
          have hh := hT.2.2 (x - (sc + 64)) (by omega)
          rw [show sc + 64 + (x - (sc + 64)) = x by omega] at hh
          exact hh
        have ekd : mI κ x 2 = nI kd := mx3.trans kd2
        -- the reference: a step, the next token
        obtain ⟨ρw, eρ⟩ : ∃ ρw, ρw = sI (sI ρ 1344 (S + nn) (nI m)) 1282 87 (nI (S + nn + 1)) := ⟨_, rfl⟩
        have hmw : StM ρw := by subst eρ; exact (hm.wI _ _ _).wI _ _ _
        have frw : Eqv qrM ρ ρw := by subst eρ; exact (Eqv.wI (fun h => h (by omega)) _).sI (fun h => h (by omega)) _
        have fpw : Eqv (pfM S) ρ ρw := by subst eρ; exact (Eqv.wI (fun h => h (by omega)) _).sI (fun h => h (by omega)) _
        have hPw : QP κ0 ρ0 sc B z T κ ρw i := hP.fr hC hmw Eqv.rf frw
        obtain ⟨-, ⟨-, hTMw⟩, -⟩ := id hPw
        obtain ⟨ρ2, r2, s2, e2, t2⟩ := m_adv hM hmw hTC hTMw hi
        have hP2 := hPw.ps hi s2 e2 t2
        obtain ⟨-, ⟨hTC2, hTM2⟩, -⟩ := id hP2
        have e90 : mI ρ2 1290 (16 * c + m) = nI kd := by rw [e2.I (by unfold avM; omega), fpw.I (by unfold pfM; omega)]; exact kd2
        have goM : ∀ κ1 (Q : Int32 → Mem → Prop) (K : Int32 × Int32 × Int32 × Mem → Prop), X_X12_is G (fun w23 s22 => ((w23 = 0 → ((tr = 0 → gT G (mR s22 1282 9) = 100 ∧ vp_in (nI (16 * c + m)) (gL G (mR s22 1282 9)) ∧ (((4 : Int32) ≤ (mI s22 (mR s22 1282 9) (nI (16 * c + m)).toNatClampNeg) → X_X12_readPath_147 G Q K 1282 tr (nI c) (nI S) (nI (16 * c + m)) w23 (nI (pos B z i)) (0 : Int32) s22) ∧ (¬ (4 : Int32) ≤ (mI s22 (mR s22 1282 9) (nI (16 * c + m)).toNatClampNeg) → X_X12_readPath_147 G Q K 1282 tr (nI c) (nI S) (nI (16 * c + m)) w23 (nI (pos B z i)) (1 : Int32) s22))) ∧ (¬ tr = 0 → X_X12_readPath_112 G Q K 1282 tr (nI c) (nI S) (nI (16 * c + m)) w23 (nI (pos B z i)) s22))) ∧ (¬ w23 = 0 → X_X12_readPath_112 G Q K 1282 tr (nI c) (nI S) (nI (16 * c + m)) w23 (nI (pos B z i)) s22))) 1282 (46 : Int32) (mg κ1 ρ2) → X_X12_readPath_16_s G Q 1282 tr (nI S) K (nI c, k0, 1, mg κ1 ρ) := fun κ1 Q K hh => by
          refine brF o1 ⟨hM.1, m_isName1 hM hTM hn (br1 ?_)⟩
          rw [mJ_m (by decide), e52]
          refine m_mbNamed0 hM hm (by omega) (xS.cls hcn).2.2.2.2.1 mc16 ?_
          rw [eb]
          refine brT (rng_nI (by omega)) ?_
          have ek : (16 : Int32) * nI c + nI m = nI (16 * c + m) := by rw [n16, pk_mul, nI_add]
          rw [ek, mI_m (by decide), mI_m (by decide), e49, s1]
          refine m_stp hM hm s1 (by omega) ?_
          rw [← eρ]
          exact r2 κ1 _ hh
        -- the class: the step written down
        obtain ⟨κw, eκ⟩ : ∃ κw, κw = sI (sI (sI κ 9 (p0 + 2 + nn) (nI m)) 8 1 (nI (p0 + 2 + nn + 1))) 9 (p0 + 1) (nI (nn + 1)) := ⟨_, rfl⟩
        have hCw : StC κw := by subst eκ; exact ((hC.wI _ _ _).wI _ _ _).wI _ _ _
        have frk : Eqv qrC κ κw := by subst eκ; exact ((Eqv.wI (fun h => h (by omega)) _).sI (fun h => h (by omega)) _).sI (fun h => h (by omega)) _
        have fpk : Eqv (pfC p0) κ κw := by subst eκ; exact ((Eqv.wI (fun h => h (by omega)) _).sI (fun h => h (by omega)) _).sI (fun h => h (by omega)) _
        have hPv : QP κ0 ρ0 sc B z T κw ρw i := hP.fr hCw hmw frk frw
        obtain ⟨-, ⟨hTCw, -⟩, -⟩ := id hPv
        have hP3 := hPv.ps hi s2 e2 t2
        obtain ⟨⟨hC3, -⟩, ⟨hTC3, -⟩, -, h1123⟩ := id hP3
        have cd2 : ∀ q, q < nn + 1 → mI (psC κw i) 9 (p0 + 2 + q) = mI ρ2 1344 (S + q) := fun q hq => by
          rw [e2.I (by unfold avM; omega), I_cl (by decide)]
          subst eκ eρ
          by_cases e : q = nn
          · subst e; simp (disch := omega) only [I_is, I_cl, I_sl, J_is, J_cl, J_sl, R_is, R_cl, R_sl, mI_sJ, mI_sR, mJ_sI, mJ_sR, mR_sI, mR_sJ]
          · simp (disch := omega) only [I_is, I_cl, I_sl, J_is, J_cl, J_sl, R_is, R_cl, R_sl, mI_sJ, mI_sR, mJ_sI, mJ_sR, mR_sI, mR_sJ]; exact cd1 q (by omega)
        have cn2 : mI (psC κw i) 9 (p0 + 1) = nI (nn + 1) := by rw [I_cl (by decide)]; subst eκ; simp (disch := omega) only [I_is, I_cl, I_sl, J_is, J_cl, J_sl, R_is, R_cl, R_sl, mI_sJ, mI_sR, mJ_sI, mJ_sR, mR_sI, mR_sJ]
        have l2 : mI (psC κw i) 8 1 = nI (p0 + 3 + nn) := by rw [I_cl (by decide)]; subst eκ; simp (disch := omega) only [I_is, I_cl, I_sl, J_is, J_cl, J_sl, R_is, R_cl, R_sl, mI_sJ, mI_sR, mJ_sI, mJ_sR, mR_sI, mR_sJ]; rw [show p0 + 2 + nn + 1 = p0 + 3 + nn by omega]
        have st2 : mI ρ2 1282 87 = nI (S + nn + 1) := by rw [e2.I (by unfold avM; omega)]; subst eρ; simp (disch := omega) only [I_is, I_cl, I_sl, J_is, J_cl, J_sl, R_is, R_cl, R_sl, mI_sJ, mI_sR, mJ_sI, mJ_sR, mR_sI, mR_sJ]
        have sm2 : mI ρ2 1344 (S + nn) = nI m := by rw [e2.I (by unfold avM; omega)]; subst eρ; simp (disch := omega) only [I_is, I_cl, I_sl, J_is, J_cl, J_sl, R_is, R_cl, R_sl, mI_sJ, mI_sR, mJ_sI, mJ_sR, mR_sI, mR_sJ]
        have pt2 : Pth n mc ρ2 c0 S nn c := by
          obtain ⟨cs, y1, y2, y3⟩ := hpt
          refine ⟨cs, y1, y2, fun q hq => ?_⟩
          obtain ⟨z1, m', z2, z3, z4, z5⟩ := y3 q hq
          refine ⟨z1, m', z2, ?_, ?_, ?_⟩
          · rw [e2.I (by unfold avM; omega)]; subst eρ; simp (disch := omega) only [I_is, I_cl, I_sl, J_is, J_cl, J_sl, R_is, R_cl, R_sl, mI_sJ, mI_sR, mJ_sI, mJ_sR, mR_sI, mR_sJ]; exact z3
          · rw [e2.I (by unfold avM; omega)]; subst eρ; simp (disch := omega) only [I_is, I_cl, I_sl, J_is, J_cl, J_sl, R_is, R_cl, R_sl, mI_sJ, mI_sR, mJ_sI, mJ_sR, mR_sI, mR_sJ]; exact z4
          · rw [e2.I (by unfold avM; omega)]; subst eρ; simp (disch := omega) only [I_is, I_cl, I_sl, J_is, J_cl, J_sl, R_is, R_cl, R_sl, mI_sJ, mI_sR, mJ_sI, mJ_sR, mR_sI, mR_sJ]; exact z5
        have fC2 : Eqv (pfC p0) κa (psC κw i) := (fC1.tr fpk).sI (fun h => h (by omega)) _
        have fM2 : Eqv (pfM S) ρa ρ2 := (fM1.tr fpw).tr (e2.mo fun a k hh => by unfold pfM at hh; unfold avM; omega)
        have stpC : ∀ ρ1 (Q : Nat → Mem → Prop) (K : Int32 × Int32 × Nat × Int32 × Mem → Prop) (w16 : Int32), ((w16 = 0 → X_X4_readPath_178 G Q K 11 tr (nI (p0 + 1)) (nI c) w16 x (nI (nn + 1)) (mg (psC κw i) ρ1)) ∧ (¬ w16 = 0 → gT G (mR (mg (psC κw i) ρ1) 11 0) = 9 ∧ X_X8_pass G (fun s26 => gT G x = 3 ∧ X_X4_readPath_178 G Q K 11 tr (nI (p0 + 1)) (mI s26 x 8) w16 x (nI (nn + 1)) s26) (mR (mg (psC κw i) ρ1) 11 0) (mg (psC κw i) ρ1))) → X_X3_add G (fun s20 => gT G (mR s20 11 1) = 4 ∧ X_X3_set G (fun s22 => gT G (mR s22 11 0) = 9 ∧ X_X8_pass G (fun s24 => ((w16 = 0 → X_X4_readPath_178 G Q K 11 tr (nI (p0 + 1)) (nI c) w16 x (nI (nn + 1)) s24) ∧ (¬ w16 = 0 → gT G (mR s24 11 0) = 9 ∧ X_X8_pass G (fun s26 => gT G x = 3 ∧ X_X4_readPath_178 G Q K 11 tr (nI (p0 + 1)) (mI s26 x 8) w16 x (nI (nn + 1)) s26) (mR s24 11 0) s24))) (mR s22 11 0) s22) (mR s20 11 1) (nI (p0 + 1)) (nI (nn + 1)) s20) 8 (nI m) (mg κ ρ1) := fun ρ1 Q K w16 hh => by
          refine q_add hL hC l1 (by omega) ?_
          rw [i111 ((hC.wI _ _ _).wI _ _ _)]
          refine ⟨g4, q_set (l := p0 + 2 + nn + 1) hL ((hC.wI _ _ _).wI _ _ _) (I_is _ _ _ _) (by omega) (by omega) ?_⟩
          rw [← eκ, i110 hCw]
          exact ⟨g9, c_pass hL hCw hTCw hi hh⟩
        have bad : ∀ (w16 : Int32), (∀ ρ1 (Q : Int32 → Mem → Prop), Q w16 (mg κ ρ1) → X_X8_isAhead G Q 3 46 (mg κ ρ1)) → (if (w16 = 0 ∧ tr = 0) then (if kd < 4 then (1 : Int32) else 0) else (if kd = 4 then 1 else 0)) = 0 → ∀ ρ1 (Q : Nat → Mem → Prop), Q 0 (mg (flC κ 3 (pos B z i)) ρ1) → Lw (X_X4_readPath_33_s G Q 11 tr (nI (p0 + 1))) (nI c, 1, x0, nI (nn + 1), mg κ ρ1) := fun w16 ha hst ρ1 Q hQ => Lw.fin (fun K => goC ρ1 Q K (by
          rw [eb]
          refine c_mbAt1 hG hC hs xS.nC h12 hcn (xS.cls hcn).2.2.2.1 mc16 hmc ?_
          rw [i110 hC, ← ex]
          refine ⟨g9, ha ρ1 _ (brF (by omega) (c_canStand gx (by omega) kd1 ekd ?_))⟩
          rw [hst]
          refine br0 ?_
          unfold X_X4_readPath_123
          rw [i110 hC]
          exact ⟨g5, g9, c_refuse hL hC hTC hQ⟩))
        have good : ∀ (w16 : Int32), (∀ ρ1 (Q : Int32 → Mem → Prop), Q w16 (mg κ ρ1) → X_X8_isAhead G Q 3 46 (mg κ ρ1)) → (if (w16 = 0 ∧ tr = 0) then (if kd < 4 then (1 : Int32) else 0) else (if kd = 4 then 1 else 0)) = 1 → ∀ ρ1 (Q : Nat → Mem → Prop) (K : Int32 × Int32 × Nat × Int32 × Mem → Prop), ((w16 = 0 → X_X4_readPath_178 G Q K 11 tr (nI (p0 + 1)) (nI c) w16 x (nI (nn + 1)) (mg (psC κw i) ρ1)) ∧ (¬ w16 = 0 → gT G (mR (mg (psC κw i) ρ1) 11 0) = 9 ∧ X_X8_pass G (fun s26 => gT G x = 3 ∧ X_X4_readPath_178 G Q K 11 tr (nI (p0 + 1)) (mI s26 x 8) w16 x (nI (nn + 1)) s26) (mR (mg (psC κw i) ρ1) 11 0) (mg (psC κw i) ρ1))) → X_X4_readPath_33_s G Q 11 tr (nI (p0 + 1)) K (nI c, 1, x0, nI (nn + 1), mg κ ρ1) := fun w16 ha hst ρ1 Q K hh => goC ρ1 Q K (by
          rw [eb]
          refine c_mbAt1 hG hC hs xS.nC h12 hcn (xS.cls hcn).2.2.2.1 mc16 hmc ?_
          rw [i110 hC, ← ex]
          refine ⟨g9, ha ρ1 _ (brF (by omega) (c_canStand gx (by omega) kd1 ekd ?_))⟩
          rw [hst]
          refine br1 ?_
          rw [i111 hC]
          exact ⟨g4, stpC ρ1 Q K w16 hh⟩)
        have m2 := s2
        by_cases ad : sgA B z (pos B z (i + 1)) 46
        · have hi1 : i + 1 < T := hTC2.lt (by rw [ad.1]; decide)
          have ah : ∀ ρ1 (Q : Int32 → Mem → Prop), Q 1 (mg κ ρ1) → X_X8_isAhead G Q 3 46 (mg κ ρ1) := fun ρ1 Q hQ => c_isAhead1 (s := 46) hL hC hTC hi (by decide) ad hQ
          by_cases k4 : kd = 4
          · subst k4
            obtain ⟨t, ht, et, -⟩ := kd5 (by decide)
            obtain ⟨ρ3, r3, s3, e3, t3⟩ := m_adv hM s2 hTC3 hTM2 hi1
            have hP4 := hP3.ps hi1 s3 e3 t3
            have et2 : mI ρ2 1291 (16 * c + m) = nI t := by rw [e2.I (by unfold avM; omega), fpw.I (by unfold pfM; omega)]; exact et
            have e8 : mI (psC (psC κw i) (i + 1)) x 8 = nI t := by
              rw [I_cl (by omega), I_cl (by omega), fpk.I (by unfold pfC; omega), mx6 (by rw [kd2]; exact (lI (a := 4) (by decide) (by decide)).mpr (Nat.le_refl _))]; exact et
            have pt3 : Pth n mc ρ3 c0 S (nn + 1) t := by
              have g : ∀ a k, a ≠ 1282 → mI ρ3 a k = mI ρ2 a k := fun a k h => e3.I (by unfold avM; omega)
              obtain ⟨cs, y1, y2, y3⟩ := pt2
              refine ⟨fun q => if q = nn + 1 then t else cs q, ?_, if_pos rfl, fun q hq => ?_⟩
              · show (if 0 = nn + 1 then t else cs 0) = c0
                rw [if_neg (by omega)]; exact y1
              · show (if q = nn + 1 then t else cs q) < n ∧ ∃ m, m < mc (if q = nn + 1 then t else cs q) ∧ mI ρ3 1344 (S + q) = nI m ∧ mI ρ3 1290 (16 * (if q = nn + 1 then t else cs q) + m) = 4 ∧ mI ρ3 1291 (16 * (if q = nn + 1 then t else cs q) + m) = nI (if q + 1 = nn + 1 then t else cs (q + 1))
                rw [if_neg (by omega), g _ _ (by decide)]
                by_cases e : q = nn
                · subst e
                  rw [if_pos rfl, y2]
                  refine ⟨hcn, m, hmc, sm2, ?_, ?_⟩
                  · rw [g _ _ (by decide)]; exact e90
                  · rw [g _ _ (by decide)]; exact et2
                · rw [if_neg (by omega)]
                  obtain ⟨z1, m', z2, z3, z4, z5⟩ := y3 q (by omega)
                  refine ⟨z1, m', z2, z3, ?_, ?_⟩
                  · rw [g _ _ (by decide)]; exact z4
                  · rw [g _ _ (by decide)]; exact z5
            have hI' : PthI κ0 ρ0 sc n mc B z T κa ρa c0 S p0 L (psC (psC κw i) (i + 1)) ρ3 (i + 1 + 1) t (nn + 1) := by
              refine ⟨hP4, ⟨?_, ?_⟩, fun q hq => ?_, ⟨ht, pt3⟩, ⟨fC2.sI (fun h => h (by omega)) _, fM2.tr (e3.mo fun a k hh => by unfold pfM at hh; unfold avM; omega)⟩, by omega, by omega, by omega⟩
              · rw [I_cl (by decide), l2]; rw [show p0 + 3 + nn = p0 + 2 + (nn + 1) by omega]
              · rw [e3.I (by unfold avM; omega), st2]; rw [show S + nn + 1 = S + (nn + 1) by omega]
              · rw [I_cl (by decide), e3.I (by unfold avM; omega)]; exact cd2 q hq
            have sC : ∀ ρ1 (Q : Nat → Mem → Prop), Lw (X_X4_readPath_33_s G Q 11 tr (nI (p0 + 1))) (nI t, 1, x, nI (nn + 1 + 1), mg (psC (psC κw i) (i + 1)) ρ1) → Lw (X_X4_readPath_33_s G Q 11 tr (nI (p0 + 1))) (nI c, 1, x0, nI (nn + 1), mg κ ρ1) := fun ρ1 Q hh => Lw.stp (fun K hK => good 1 ah (by rw [if_neg (by rintro ⟨h, -⟩; exact o1 h), if_pos rfl]) ρ1 Q K (brF o1 (by
              rw [i110 hC3]
              refine ⟨g9, c_pass hL hC3 hTC3 hi1 ⟨gx, ?_⟩⟩
              unfold X_X4_readPath_178
              rw [mI_c (by omega), e8, nI_1]
              exact hK))) hh
            have sM : ∀ κ1 (Q : Int32 → Mem → Prop), Lw (X_X12_readPath_16_s G Q 1282 tr (nI S)) (nI t, nI (16 * c + m), 1, mg κ1 ρ3) → Lw (X_X12_readPath_16_s G Q 1282 tr (nI S)) (nI c, k0, 1, mg κ1 ρ) := fun κ1 Q hh => Lw.stp (fun K hK => goM κ1 Q K (m_is1 (s := 46) hM hTM2 ad (br1 (by
              have hm := s2
              simp (disch := omega) only [X_X12_readPath_112, X_X12_readPath_147, X_X12_readPath_183, mI_m, mR_m, mJ_m, sI_m, sJ_m, hM.1, hM.2, hm.1, hm.2, e90, et2, n4, eT, z1f, lT, lF, tT, tF, eF, pF, zT, m1F, vT, cI, true_and, and_true, true_implies, false_implies, not_false_eq_true, not_true_eq_false, forall_eq, implies_true]
              exact r3 κ1 _ hK)))) hh
            rcases ih (T - (i + 2)) (by omega) (i + 1 + 1) t (nn + 1) _ ρ3 x (nI (16 * c + m)) rfl hI' with ⟨κf, ρf, y1, y2, y3⟩ | ⟨κf, ρf, i', c', m', nn', y0, y1, y2, y3⟩
            · exact Or.inl ⟨κf, ρf, y1, fun ρ1 Q hQ => sC ρ1 Q (y2 ρ1 Q hQ), fun κ1 Q hQ => sM κ1 Q (y3 κ1 Q hQ)⟩
            · exact Or.inr ⟨κf, ρf, i', c', m', nn', by omega, y1, fun ρ1 Q hQ => sC ρ1 Q (y2 ρ1 Q hQ), fun κ1 Q hQ => sM κ1 Q (y3 κ1 Q hQ)⟩
          · refine Or.inl ⟨_, _, hP2.failAt hP.fq.1 hC 3 (p := pos B z i), bad 1 ah (by rw [if_neg (by rintro ⟨h, -⟩; exact o1 h), if_neg k4]), fun κ1 Q hQ => Lw.fin (fun K => goM κ1 Q K (m_is1 (s := 46) hM hTM2 ad (br1 ?_)))⟩
            have hm := s2
            simp (disch := omega) only [X_X12_readPath_112, X_X12_readPath_147, mI_m, mR_m, mJ_m, sI_m, sJ_m, hM.1, hM.2, hm.1, hm.2, e90, n4, lT, lF, tT, tF, eF, pF, zT, m1F, vT, cI, true_and, and_true, true_implies, false_implies, not_false_eq_true, not_true_eq_false, forall_eq, implies_true, X_X12_fails_0, X_X12_fails, I_is, I_cl, I_sl, J_is, J_cl, J_sl, R_is, R_cl, R_sl, mI_sJ, mI_sR, mJ_sI, mJ_sR, mR_sI, mR_sJ, bzT0]
            exact hQ
        · have ah : ∀ ρ1 (Q : Int32 → Mem → Prop), Q 0 (mg κ ρ1) → X_X8_isAhead G Q 3 46 (mg κ ρ1) := fun ρ1 Q hQ => c_isAhead0 (s := 46) hL hC hTC hi (by decide) hTM.lo ad hQ
          by_cases ok : (tr = 0 → kd < 4) ∧ (¬ tr = 0 → kd = 4)
          · have hst : (if ((0 : Int32) = 0 ∧ tr = 0) then (if kd < 4 then (1 : Int32) else 0) else (if kd = 4 then 1 else 0)) = 1 := by
              by_cases ht : tr = 0
              · rw [if_pos ⟨rfl, ht⟩, if_pos (ok.1 ht)]
              · rw [if_neg (fun h => ht h.2), if_pos (ok.2 ht)]
            refine Or.inr ⟨psC κw i, ρ2, i + 1, c, m, nn, by omega, ⟨hP3, ⟨l2, cn2, st2⟩, cd2, ⟨hcn, hmc, pt2, sm2⟩, ⟨fC2, fM2⟩, ⟨by omega, by omega⟩, kd, kd1, e90, ok.1, ok.2⟩, fun ρ1 Q hQ => Lw.stp (b := (nI c, 0, x, nI (nn + 2), mg (psC κw i) ρ1)) (fun K hK => good 0 ah hst ρ1 Q K (brT rfl ?_)) (Lw.fin fun K => ?_), fun κ1 Q hQ => Lw.stp (b := (nI c, nI (16 * c + m), 0, mg κ1 ρ2)) (fun K hK => goM κ1 Q K (m_is0 (s := 46) hM hTM2 (by decide) ad (br0 ?_))) (hQ (nI c))⟩
            · unfold X_X4_readPath_178
              rw [nI_1]
              exact hK
            · rw [ex0] at hQ
              exact ⟨fun _ => hQ, fun _ => brT rfl hQ⟩
            · have hm := s2
              by_cases ht : tr = 0
              · have lt := ok.1 ht
                refine brT ht ?_
                simp (disch := omega) only [X_X12_readPath_147, X_X12_readPath_183, mI_m, mR_m, mJ_m, sI_m, sJ_m, hM.1, hM.2, hm.1, hm.2, e90, n4, z1f, lT, lF, tT, tF, eF, pF, zT, m1F, vT, cI, true_and, and_true, true_implies, false_implies, not_false_eq_true, not_true_eq_false, forall_eq, implies_true]
                exact hK
              · have k4 := ok.2 ht
                subst k4
                refine brF ht ?_
                simp (disch := omega) only [X_X12_readPath_112, X_X12_readPath_147, X_X12_readPath_183, mI_m, mR_m, mJ_m, sI_m, sJ_m, hM.1, hM.2, hm.1, hm.2, e90, n4, eT, z1f, lT, lF, tT, tF, eF, pF, zT, m1F, vT, cI, true_and, and_true, true_implies, false_implies, not_false_eq_true, not_true_eq_false, forall_eq, implies_true]
                exact hK
          · have hst : (if ((0 : Int32) = 0 ∧ tr = 0) then (if kd < 4 then (1 : Int32) else 0) else (if kd = 4 then 1 else 0)) = 0 := by
              by_cases ht : tr = 0
              · rw [if_pos ⟨rfl, ht⟩, if_neg (fun h => ok ⟨fun _ => h, fun h2 => absurd ht h2⟩)]
              · rw [if_neg (fun h => ht h.2), if_neg (fun h => ok ⟨fun h2 => absurd h2 ht, fun _ => h⟩)]
            refine Or.inl ⟨_, _, hP2.failAt hP.fq.1 hC 3 (p := pos B z i), bad 0 ah hst, fun κ1 Q hQ => Lw.fin (fun K => goM κ1 Q K (m_is0 (s := 46) hM hTM2 (by decide) ad (br0 ?_)))⟩
            have hm := s2
            by_cases ht : tr = 0
            · have nl : ¬ kd < 4 := fun h => ok ⟨fun _ => h, fun h2 => absurd ht h2⟩
              refine brT ht ?_
              simp (disch := omega) only [X_X12_readPath_147, mI_m, mR_m, mJ_m, sI_m, sJ_m, hM.1, hM.2, hm.1, hm.2, e90, n4, lT, lF, tT, tF, eF, pF, zT, m1F, vT, cI, true_and, and_true, true_implies, false_implies, not_false_eq_true, not_true_eq_false, forall_eq, implies_true, X_X12_fails_0, X_X12_fails, I_is, I_cl, I_sl, J_is, J_cl, J_sl, R_is, R_cl, R_sl, mI_sJ, mI_sR, mJ_sI, mJ_sR, mR_sI, mR_sJ, bzT0]
              exact hQ
            · have n44 : ¬ kd = 4 := fun h => ok ⟨fun h2 => absurd h2 ht, fun _ => h⟩
              refine brF ht ?_
              simp (disch := omega) only [X_X12_readPath_112, X_X12_readPath_147, mI_m, mR_m, mJ_m, sI_m, sJ_m, hM.1, hM.2, hm.1, hm.2, e90, n4, lT, lF, tT, tF, eF, pF, zT, m1F, vT, cI, true_and, and_true, true_implies, false_implies, not_false_eq_true, not_true_eq_false, forall_eq, implies_true, X_X12_fails_0, X_X12_fails, I_is, I_cl, I_sl, J_is, J_cl, J_sl, R_is, R_cl, R_sl, mI_sJ, mI_sR, mJ_sI, mJ_sR, mR_sI, mR_sJ, bzT0]
              exact hQ
    · refine Or.inl ⟨_, _, hP.fail (flt B z (pos B z i)) (p := pos B z i), fun ρ1 Q hQ => Lw.fin (fun K => brF l30 (brF o1 ?_)), fun κ1 Q hQ => Lw.fin (fun K => brF o1 ⟨hM.1, m_isName0 hM hTM hn (br0 (m_wrong hM hTM ⟨bz0, hQ⟩))⟩)⟩
      rw [i110 hC]
      refine ⟨g5, g9, c_isName0 hL hC hTC hn (br0 ?_)⟩
      rw [i110 hC]
      exact ⟨g9, c_misplaced hL hC hTC hQ⟩
end QPA
