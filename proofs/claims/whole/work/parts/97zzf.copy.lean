/-! map's end: the reference copies its upper half -/
def cpM (ρ ρ' : Mem) (c m : Nat) : Prop := mJ ρ' 1289 (16 * c + m) = mJ ρ 1289 (16 * (13 + c) + m) ∧ (∀ a, 1290 ≤ a → a ≤ 1296 → a ≠ 1292 → mI ρ' a (16 * c + m) = mI ρ a (16 * (13 + c) + m)) ∧ mI ρ' 1292 (16 * c + m) = if mI ρ 1290 (16 * (13 + c) + m) = 3 then mI ρ 1292 (16 * (13 + c) + m) - 1600 else mI ρ 1292 (16 * (13 + c) + m)
def cpK (ρ ρ' : Mem) (c : Nat) : Prop := (mJ ρ' 1284 c = mJ ρ 1284 (13 + c) ∧ ∀ a, 1285 ≤ a → a ≤ 1288 → mI ρ' a c = mI ρ a (13 + c)) ∧ (∀ m, m < 16 → cpM ρ ρ' c m) ∧ ∀ h a, h < 4 → 1301 ≤ a → a ≤ 1303 → mI ρ' a (4 * c + h) = mI ρ a (4 * (13 + c) + h)
def loM (a k : Nat) : Prop := 1284 ≤ a ∧ a ≤ 1288 ∧ k < 13 ∨ 1289 ≤ a ∧ a ≤ 1296 ∧ k < 208 ∨ 1301 ≤ a ∧ a ≤ 1303 ∧ k < 52
section COPY
variable {G : Lay} {ρ ρ' : Mem} {c n nw m : Nat}
theorem m_mapM (hM : LyM G) (hm : StM ρ) (hc : c < 12) : ∃ ρ', StM ρ' ∧ Eqv (fun a k => ¬ (1289 ≤ a ∧ a ≤ 1296 ∧ 16 * c ≤ k ∧ k < 16 * c + 16)) ρ ρ' ∧ (∀ m, m < 16 → cpM ρ ρ' c m) ∧ ∀ κ1 (Q : Int32 → Mem → Prop) (K : Int32 × Mem → Prop), X_X12_map_177 G Q K 1282 (nI c) 0 (mg κ1 ρ') → X_X12_map_121 G Q K 1282 (nI c) 0 (mg κ1 ρ) := by
  have n13 : (13 : Int32) = nI 13 := rfl
  have n16 : (16 : Int32) = nI 16 := rfl
  obtain ⟨⟨b1, ρa⟩, ⟨hb, hma, fra, fa⟩, run⟩ := Lw.run (ι := Mem × (Int32 → Mem → Prop) × (Int32 × Mem → Prop)) (fun z => X_X12_map_121_s G z.2.1 z.2.2 1282 (nI c)) (fun (b : Nat × Mem) z => (nI b.1, mg z.1 b.2)) 16 (fun i b => b.1 = i ∧ StM b.2 ∧ Eqv (fun a k => ¬ (1289 ≤ a ∧ a ≤ 1296 ∧ 16 * c ≤ k ∧ k < 16 * c + 16)) ρ b.2 ∧ ∀ m, m < i → cpM ρ b.2 c m) (by
    rintro i ⟨b1, ρb⟩ hi ⟨hb, hm, fr, ff⟩
    have hb : b1 = i := hb
    subst hb
    have hm : StM ρb := hm
    have fr : Eqv _ ρ ρb := fr
    have ff : ∀ m, m < b1 → cpM ρ ρb c m := ff
    have sv : ∀ a, mI ρb a (16 * (13 + c) + b1) = mI ρ a (16 * (13 + c) + b1) := fun a => fr.I (by omega)
    have sw : ∀ a, mJ ρb a (16 * (13 + c) + b1) = mJ ρ a (16 * (13 + c) + b1) := fun a => fr.J (by omega)
    have hmc : StM (cpMb ρb (16 * (13 + c) + b1) (16 * c + b1)) := (((((((hm.wJ _ _ _).wI _ _ _).wI _ _ _).wI _ _ _).wI _ _ _).wI _ _ _).wI _ _ _).wI _ _ _
    have e90 : mI (cpMb ρb (16 * (13 + c) + b1) (16 * c + b1)) 1290 (16 * c + b1) = mI ρ 1290 (16 * (13 + c) + b1) := by
      unfold cpMb; simp (disch := omega) only [I_is, I_cl, I_sl, J_is, J_cl, J_sl, R_is, R_cl, R_sl, mI_sJ, mI_sR, mJ_sI, mJ_sR, mR_sI, mR_sJ, sv]
    have e92 : mI (cpMb ρb (16 * (13 + c) + b1) (16 * c + b1)) 1292 (16 * c + b1) = mI ρ 1292 (16 * (13 + c) + b1) := by
      unfold cpMb; simp (disch := omega) only [I_is, I_cl, I_sl, J_is, J_cl, J_sl, R_is, R_cl, R_sl, mI_sJ, mI_sR, mJ_sI, mJ_sR, mR_sI, mR_sJ, sv]
    have frc := cpMb_Eqv (ρ := ρb) (s := 16 * (13 + c) + b1) (t := 16 * c + b1)
    have cpa : ∀ ρx : Mem, Eqv (fun a k => ¬ (a = 1292 ∧ k = 16 * c + b1)) (cpMb ρb (16 * (13 + c) + b1) (16 * c + b1)) ρx → (mI ρx 1292 (16 * c + b1) = if mI ρ 1290 (16 * (13 + c) + b1) = 3 then mI ρ 1292 (16 * (13 + c) + b1) - 1600 else mI ρ 1292 (16 * (13 + c) + b1)) → ∀ m, m < b1 + 1 → cpM ρ ρx c m := fun ρx e h92 m hm => by
      by_cases e1 : m = b1
      · subst e1
        refine ⟨?_, fun a a1 a2 a3 => ?_, h92⟩
        · rw [e.J (by omega)]; unfold cpMb; simp (disch := omega) only [I_is, I_cl, I_sl, J_is, J_cl, J_sl, R_is, R_cl, R_sl, mI_sJ, mI_sR, mJ_sI, mJ_sR, mR_sI, mR_sJ, sw]
        · rw [e.I (by omega)]
          unfold cpMb
          rcases (by omega : a = 1290 ∨ a = 1291 ∨ a = 1293 ∨ a = 1294 ∨ a = 1295 ∨ a = 1296) with rfl | rfl | rfl | rfl | rfl | rfl <;> simp (disch := omega) only [I_is, I_cl, I_sl, J_is, J_cl, J_sl, R_is, R_cl, R_sl, mI_sJ, mI_sR, mJ_sI, mJ_sR, mR_sI, mR_sJ, sv]
      · obtain ⟨x1, x2, x3⟩ := ff m (by omega)
        refine ⟨?_, fun a a1 a2 a3 => ?_, ?_⟩
        · rw [e.J (by omega), frc.J (by omega)]; exact x1
        · rw [e.I (by omega), frc.I (by omega)]; exact x2 a a1 a2 a3
        · rw [e.I (by omega), frc.I (by omega)]; exact x3
    have fr2 : Eqv (fun a k => ¬ (1289 ≤ a ∧ a ≤ 1296 ∧ 16 * c ≤ k ∧ k < 16 * c + 16)) ρ (cpMb ρb (16 * (13 + c) + b1) (16 * c + b1)) := fr.tr (frc.mo fun a k (hh : ¬ (1289 ≤ a ∧ a ≤ 1296 ∧ 16 * c ≤ k ∧ k < 16 * c + 16)) => by omega)
    have go : ∀ (z : Mem × (Int32 → Mem → Prop) × (Int32 × Mem → Prop)) (K : Int32 × Mem → Prop), ((mI ρ 1290 (16 * (13 + c) + b1) = (3 : Int32) → K (nI (b1 + 1), mg z.1 (sI (cpMb ρb (16 * (13 + c) + b1) (16 * c + b1)) 1292 (16 * c + b1) (mI ρ 1292 (16 * (13 + c) + b1) - 1600)))) ∧ (¬ mI ρ 1290 (16 * (13 + c) + b1) = (3 : Int32) → K (nI (b1 + 1), mg z.1 (cpMb ρb (16 * (13 + c) + b1) (16 * c + b1))))) → X_X12_map_121_s G z.2.1 z.2.2 1282 (nI c) K (nI b1, mg z.1 ρb) := fun z K hh => by
      simp (disch := omega) only [X_X12_map_121_s, X_X12_map_169, mI_m, mR_m, mJ_m, sI_m, sJ_m, hM.1, hM.2, hm.1, hm.2, n13, n16, nI_add, nI_1, lT, lF, tT, tF, eF, pF, zT, m1F, vT, cI, true_and, and_true, true_implies, false_implies, not_false_eq_true, not_true_eq_false, forall_eq, implies_true]
      refine m_copyMember hM hm (by omega) (by omega) (by omega) ?_
      have hm := hmc
      simp (disch := omega) only [mI_m, mR_m, mJ_m, sI_m, sJ_m, hM.1, hM.2, hm.1, hm.2, pk_mul, nI_add, e90, e92, lT, lF, tT, tF, eF, pF, zT, m1F, vT, cI, true_and, and_true, true_implies, false_implies, not_false_eq_true, not_true_eq_false, forall_eq, implies_true]
      exact hh
    by_cases h3 : mI ρ 1290 (16 * (13 + c) + b1) = 3
    · refine ⟨(b1 + 1, sI (cpMb ρb (16 * (13 + c) + b1) (16 * c + b1)) 1292 (16 * c + b1) (mI ρ 1292 (16 * (13 + c) + b1) - 1600)), ⟨rfl, hmc.wI _ _ _, fr2.sI (fun h => h (by omega)) _, cpa _ (Eqv.wI (fun h => h (by omega)) _) (by rw [I_is, if_pos h3])⟩, fun z K hK => go z K (brT h3 hK)⟩
    · exact ⟨(b1 + 1, cpMb ρb (16 * (13 + c) + b1) (16 * c + b1)), ⟨rfl, hmc, fr2, cpa _ Eqv.rf (by rw [e92, if_neg h3])⟩, fun z K hK => go z K (brF h3 hK)⟩) 0 (Nat.zero_le _) (0, ρ) ⟨rfl, hm, Eqv.rf, fun r h => by omega⟩
  have hb : b1 = 16 := hb
  subst hb
  have hma : StM ρa := hma
  refine ⟨ρa, hma, fra, fa, fun κ1 Q K hQ => run (κ1, Q, K) (fun K2 => ?_)⟩
  show X_X12_map_121_s G Q K 1282 (nI c) K2 (nI 16, mg κ1 ρa)
  simp (disch := omega) only [X_X12_map_121_s, n16, lT, lF, tT, tF, eF, pF, zT, m1F, vT, cI, true_and, and_true, true_implies, false_implies, not_false_eq_true, not_true_eq_false, forall_eq, implies_true]
  exact hQ
theorem m_mapH (hM : LyM G) (hm : StM ρ) (hc : c < 12) : ∃ ρ', StM ρ' ∧ Eqv (fun a k => ¬ (1301 ≤ a ∧ a ≤ 1303 ∧ 4 * c ≤ k ∧ k < 4 * c + 4)) ρ ρ' ∧ (∀ h a, h < 4 → 1301 ≤ a → a ≤ 1303 → mI ρ' a (4 * c + h) = mI ρ a (4 * (13 + c) + h)) ∧ ∀ κ1 (Q : Int32 → Mem → Prop) (K : Int32 × Mem → Prop), K (nI (c + 1), mg κ1 ρ') → X_X12_map_177 G Q K 1282 (nI c) 0 (mg κ1 ρ) := by
  have n4 : (4 : Int32) = nI 4 := rfl
  have n52 : (52 : Int32) = nI 52 := rfl
  obtain ⟨⟨b1, ρa⟩, ⟨hb, hma, fra, fa⟩, run⟩ := Lw.run (ι := Mem × (Int32 → Mem → Prop) × (Int32 × Mem → Prop)) (fun z => X_X12_map_177_s G z.2.1 z.2.2 1282 (nI c)) (fun (b : Nat × Mem) z => (nI b.1, mg z.1 b.2)) 4 (fun i b => b.1 = i ∧ StM b.2 ∧ Eqv (fun a k => ¬ (1301 ≤ a ∧ a ≤ 1303 ∧ 4 * c ≤ k ∧ k < 4 * c + 4)) ρ b.2 ∧ ∀ h a, h < i → 1301 ≤ a → a ≤ 1303 → mI b.2 a (4 * c + h) = mI ρ a (4 * (13 + c) + h)) (by
    rintro i ⟨b1, ρb⟩ hi ⟨hb, hm, fr, ff⟩
    have hb : b1 = i := hb
    subst hb
    have hm : StM ρb := hm
    have fr : Eqv _ ρ ρb := fr
    have ff : ∀ h a, h < b1 → 1301 ≤ a → a ≤ 1303 → mI ρb a (4 * c + h) = mI ρ a (4 * (13 + c) + h) := ff
    have sv : ∀ a, mI ρb a (52 + 4 * c + b1) = mI ρ a (4 * (13 + c) + b1) := fun a => by rw [fr.I (by omega), show 52 + 4 * c + b1 = 4 * (13 + c) + b1 by omega]
    refine ⟨(b1 + 1, sI (sI (sI ρb 1301 (4 * c + b1) (mI ρ 1301 (4 * (13 + c) + b1))) 1302 (4 * c + b1) (mI ρ 1302 (4 * (13 + c) + b1))) 1303 (4 * c + b1) (mI ρ 1303 (4 * (13 + c) + b1))), ⟨rfl, ((hm.wI _ _ _).wI _ _ _).wI _ _ _, ((fr.sI (fun h => h (by omega)) _).sI (fun h => h (by omega)) _).sI (fun h => h (by omega)) _, fun h a h1 h2 h3 => ?_⟩, fun z K hK => ?_⟩
    · show mI (sI (sI (sI ρb _ _ _) _ _ _) _ _ _) a (4 * c + h) = _
      by_cases e : h = b1
      · subst e
        rcases (by omega : a = 1301 ∨ a = 1302 ∨ a = 1303) with rfl | rfl | rfl <;> simp (disch := omega) only [I_is, I_cl, I_sl, J_is, J_cl, J_sl, R_is, R_cl, R_sl, mI_sJ, mI_sR, mJ_sI, mJ_sR, mR_sI, mR_sJ]
      · simp (disch := omega) only [I_is, I_cl, I_sl, J_is, J_cl, J_sl, R_is, R_cl, R_sl, mI_sJ, mI_sR, mJ_sI, mJ_sR, mR_sI, mR_sJ]; exact ff h a (by omega) h2 h3
    · show X_X12_map_177_s G z.2.1 z.2.2 1282 (nI c) K (nI b1, mg z.1 ρb)
      simp (disch := omega) only [X_X12_map_177_s, mI_m, mR_m, mJ_m, sI_m, sJ_m, hM.1, hM.2, hm.1, hm.2, n4, n52, pk_mul, nI_add, nI_1, sv, lT, lF, tT, tF, eF, pF, zT, m1F, vT, cI, true_and, and_true, true_implies, false_implies, not_false_eq_true, not_true_eq_false, forall_eq, implies_true, I_is, I_cl, I_sl, J_is, J_cl, J_sl, R_is, R_cl, R_sl, mI_sJ, mI_sR, mJ_sI, mJ_sR, mR_sI, mR_sJ]
      exact hK) 0 (Nat.zero_le _) (0, ρ) ⟨rfl, hm, Eqv.rf, fun h a h1 => by omega⟩
  have hb : b1 = 4 := hb
  subst hb
  have hma : StM ρa := hma
  refine ⟨ρa, hma, fra, fa, fun κ1 Q K hQ => run (κ1, Q, K) (fun K2 => ?_)⟩
  show X_X12_map_177_s G Q K 1282 (nI c) K2 (nI 4, mg κ1 ρa)
  simp (disch := omega) only [X_X12_map_177_s, n4, nI_1, lT, lF, tT, tF, eF, pF, zT, m1F, vT, cI, true_and, and_true, true_implies, false_implies, not_false_eq_true, not_true_eq_false, forall_eq, implies_true]
  exact hQ
theorem m_map36 (hM : LyM G) (hm : StM ρ) (h12 : n ≤ 12) (e56 : mI ρ 1282 56 = nI n) : ∃ ρ', StM ρ' ∧ Eqv (fun a k => ¬ loM a k) ρ ρ' ∧ (∀ c, c < n → cpK ρ ρ' c) ∧ ∀ κ1 (Q : Int32 → Mem → Prop), X_X12_map_267 G Q 1282 1600 (mg κ1 ρ') → X_X12_map_36 G Q 1282 0 (mg κ1 ρ) := by
  have n13 : (13 : Int32) = nI 13 := rfl
  obtain ⟨⟨b1, ρa⟩, ⟨hb, hma, fra, fa⟩, run⟩ := Lw.run (ι := Mem × (Int32 → Mem → Prop)) (fun z => X_X12_map_36_s G z.2 1282) (fun (b : Nat × Mem) z => (nI b.1, mg z.1 b.2)) n (fun i b => b.1 = i ∧ StM b.2 ∧ Eqv (fun a k => ¬ loM a k) ρ b.2 ∧ ∀ c, c < i → cpK ρ b.2 c) (by
    rintro i ⟨b1, ρb⟩ hi ⟨hb, hm, fr, ff⟩
    have hb : b1 = i := hb
    subst hb
    have hm : StM ρb := hm
    have fr : Eqv _ ρ ρb := fr
    have ff : ∀ c, c < b1 → cpK ρ ρb c := ff
    have up : ∀ a k, 13 ≤ k → 1284 ≤ a → a ≤ 1288 → mI ρb a k = mI ρ a k := fun a k h1 h2 h3 => fr.I (by unfold loM; omega)
    have upJ : ∀ a k, 13 ≤ k → 1284 ≤ a → a ≤ 1288 → mJ ρb a k = mJ ρ a k := fun a k h1 h2 h3 => fr.J (by unfold loM; omega)
    have e56' : mI ρb 1282 56 = nI n := (fr.I (by unfold loM; omega)).trans e56
    obtain ⟨ρw, ew⟩ : ∃ ρw, ρw = sI (sI (sI (sI (sJ ρb 1284 b1 (mJ ρ 1284 (13 + b1))) 1285 b1 (mI ρ 1285 (13 + b1))) 1286 b1 (mI ρ 1286 (13 + b1))) 1287 b1 (mI ρ 1287 (13 + b1))) 1288 b1 (mI ρ 1288 (13 + b1)) := ⟨_, rfl⟩
    have hmw : StM ρw := by subst ew; exact ((((hm.wJ _ _ _).wI _ _ _).wI _ _ _).wI _ _ _).wI _ _ _
    have frw : Eqv (fun a k => ¬ (1284 ≤ a ∧ a ≤ 1288 ∧ k = b1)) ρb ρw := by
      subst ew
      refine ((((Eqv.wJ ?_ _).sI ?_ _).sI ?_ _).sI ?_ _).sI ?_ _
      all_goals exact fun h => h (by omega)
    obtain ⟨ρx, hmx, frx, fx, rx⟩ := m_mapM hM hmw (show b1 < 12 by omega)
    obtain ⟨ρy, hmy, fry, fy, ry⟩ := m_mapH hM hmx (show b1 < 12 by omega)
    have l1 : Eqv (fun a k => ¬ loM a k) ρb ρw := frw.mo fun a k hh => by unfold loM at hh; omega
    have l2 : Eqv (fun a k => ¬ loM a k) ρw ρx := frx.mo fun a k hh => by unfold loM at hh; omega
    have l3 : Eqv (fun a k => ¬ loM a k) ρx ρy := fry.mo fun a k hh => by unfold loM at hh; omega
    have gw : ∀ a k, 208 ≤ k → mI ρw a k = mI ρ a k := fun a k h => ((fr.tr l1).I (by unfold loM; omega))
    have gwJ : ∀ a k, 208 ≤ k → mJ ρw a k = mJ ρ a k := fun a k h => ((fr.tr l1).J (by unfold loM; omega))
    have gx : ∀ a k, 1301 ≤ a → 52 ≤ k → mI ρx a k = mI ρ a k := fun a k h h2 => (((fr.tr l1).tr l2).I (by unfold loM; omega))
    refine ⟨(b1 + 1, ρy), ⟨rfl, hmy, ((fr.tr l1).tr l2).tr l3, fun c hc => ?_⟩, fun z K hK => ?_⟩
    · show cpK ρ ρy c
      by_cases e : c = b1
      · subst e
        refine ⟨⟨?_, fun a a1 a2 => ?_⟩, fun m hm => ?_, fun h a h1 h2 h3 => ?_⟩
        · rw [fry.J (by omega), frx.J (by omega)]; subst ew; simp (disch := omega) only [I_is, I_cl, I_sl, J_is, J_cl, J_sl, R_is, R_cl, R_sl, mI_sJ, mI_sR, mJ_sI, mJ_sR, mR_sI, mR_sJ]
        · rw [fry.I (by omega), frx.I (by omega)]; subst ew
          rcases (by omega : a = 1285 ∨ a = 1286 ∨ a = 1287 ∨ a = 1288) with rfl | rfl | rfl | rfl <;> simp (disch := omega) only [I_is, I_cl, I_sl, J_is, J_cl, J_sl, R_is, R_cl, R_sl, mI_sJ, mI_sR, mJ_sI, mJ_sR, mR_sI, mR_sJ]
        · obtain ⟨x1, x2, x3⟩ := fx m hm
          refine ⟨?_, fun a a1 a2 a3 => ?_, ?_⟩
          · rw [fry.J (by omega), x1, gwJ _ _ (by omega)]
          · rw [fry.I (by omega), x2 a a1 a2 a3, gw _ _ (by omega)]
          · rw [fry.I (by omega), x3, gw _ _ (by omega), gw _ _ (by omega)]
        · rw [fy h a h1 h2 h3, gx _ _ h2 (by omega)]
      · obtain ⟨⟨y1, y2⟩, y3, y4⟩ := ff c (by omega)
        refine ⟨⟨?_, fun a a1 a2 => ?_⟩, fun m hm => ?_, fun h a h1 h2 h3 => ?_⟩
        · rw [fry.J (by omega), frx.J (by omega), frw.J (by omega)]; exact y1
        · rw [fry.I (by omega), frx.I (by omega), frw.I (by omega)]; exact y2 a a1 a2
        · obtain ⟨x1, x2, x3⟩ := y3 m hm
          refine ⟨?_, fun a a1 a2 a3 => ?_, ?_⟩
          · rw [fry.J (by omega), frx.J (by omega), frw.J (by omega)]; exact x1
          · rw [fry.I (by omega), frx.I (by omega), frw.I (by omega)]; exact x2 a a1 a2 a3
          · rw [fry.I (by omega), frx.I (by omega), frw.I (by omega)]; exact x3
        · rw [fry.I (by omega), frx.I (by omega), frw.I (by omega)]; exact y4 h a h1 h2 h3
    · show X_X12_map_36_s G z.2 1282 K (nI b1, mg z.1 ρb)
      simp (disch := omega) only [X_X12_map_36_s, mI_m, mR_m, mJ_m, sI_m, sJ_m, hM.1, hM.2, hm.1, hm.2, e56', n13, nI_add, up, upJ, lT, lF, tT, tF, eF, pF, zT, m1F, vT, cI, true_and, and_true, true_implies, false_implies, not_false_eq_true, not_true_eq_false, forall_eq, implies_true, I_is, I_cl, I_sl, J_is, J_cl, J_sl, R_is, R_cl, R_sl, mI_sJ, mI_sR, mJ_sI, mJ_sR, mR_sI, mR_sJ]
      rw [← ew]
      exact rx z.1 z.2 K (ry z.1 z.2 K hK)) 0 (Nat.zero_le _) (0, ρ) ⟨rfl, hm, Eqv.rf, fun c h => by omega⟩
  have hb : b1 = n := hb
  subst hb
  have hma : StM ρa := hma
  have fra : Eqv _ ρ ρa := fra
  have e56' : mI ρa 1282 56 = nI b1 := (fra.I (by unfold loM; omega)).trans e56
  refine ⟨ρa, hma, fra, fa, fun κ1 Q hQ => run (κ1, Q) (fun K2 => ?_)⟩
  show X_X12_map_36_s G Q 1282 K2 (nI b1, mg κ1 ρa)
  have hm := hma
  simp (disch := omega) only [X_X12_map_36_s, mI_m, mR_m, mJ_m, sI_m, sJ_m, hM.1, hM.2, hm.1, hm.2, e56', lT, lF, tT, tF, eF, pF, zT, m1F, vT, cI, true_and, and_true, true_implies, false_implies, not_false_eq_true, not_true_eq_false, forall_eq, implies_true]
  exact hQ
theorem m_map267 (hM : LyM G) (hm : StM ρ) (hw : nw ≤ 1500) (e25 : mI ρ 1282 25 = nI (1600 + nw)) : ∃ ρ', StM ρ' ∧ Eqv (fun a k => ¬ (a = 1304 ∧ k < 1600)) ρ ρ' ∧ (∀ j, j < nw → mJ ρ' 1304 j = mJ ρ 1304 (1600 + j)) ∧ ∀ κ1 (Q : Int32 → Mem → Prop), X_X12_map_304 G Q 1282 0 (mg κ1 (sI ρ' 1282 26 0)) → X_X12_map_267 G Q 1282 1600 (mg κ1 ρ) := by
  have n16 : (1600 : Int32) = nI 1600 := rfl
  obtain ⟨⟨b1, ρa⟩, ⟨hb, hma, fra, fa⟩, run⟩ := Lw.run (ι := Mem × (Int32 → Mem → Prop)) (fun z => X_X12_map_267_s G z.2 1282) (fun (b : Nat × Mem) z => (nI (1600 + b.1), mg z.1 b.2)) nw (fun i b => b.1 = i ∧ StM b.2 ∧ Eqv (fun a k => ¬ (a = 1304 ∧ k < 1600)) ρ b.2 ∧ ∀ j, j < i → mJ b.2 1304 j = mJ ρ 1304 (1600 + j)) (by
    rintro i ⟨b1, ρb⟩ hi ⟨hb, hm, fr, ff⟩
    have hb : b1 = i := hb
    subst hb
    have hm : StM ρb := hm
    have fr : Eqv _ ρ ρb := fr
    have ff : ∀ j, j < b1 → mJ ρb 1304 j = mJ ρ 1304 (1600 + j) := ff
    have e25' : mI ρb 1282 25 = nI (1600 + nw) := (fr.I (by omega)).trans e25
    have sv : mJ ρb 1304 (1600 + b1) = mJ ρ 1304 (1600 + b1) := fr.J (by omega)
    refine ⟨(b1 + 1, sJ ρb 1304 b1 (mJ ρ 1304 (1600 + b1))), ⟨rfl, hm.wJ _ _ _, fr.tr (Eqv.wJ (fun h => h (by omega)) _), fun j hj => ?_⟩, fun z K hK => ?_⟩
    · show mJ (sJ ρb _ _ _) 1304 j = _
      by_cases e : j = b1
      · subst e; simp (disch := omega) only [I_is, I_cl, I_sl, J_is, J_cl, J_sl, R_is, R_cl, R_sl, mI_sJ, mI_sR, mJ_sI, mJ_sR, mR_sI, mR_sJ]
      · simp (disch := omega) only [I_is, I_cl, I_sl, J_is, J_cl, J_sl, R_is, R_cl, R_sl, mI_sJ, mI_sR, mJ_sI, mJ_sR, mR_sI, mR_sJ]; exact ff j (by omega)
    · show X_X12_map_267_s G z.2 1282 K (nI (1600 + b1), mg z.1 ρb)
      have sub : nI (1600 + b1) - nI 1600 = nI b1 := by rw [pk_sub (by omega), show 1600 + b1 - 1600 = b1 by omega]
      simp (disch := omega) only [X_X12_map_267_s, mI_m, mR_m, mJ_m, sI_m, sJ_m, hM.1, hM.2, hm.1, hm.2, e25', n16, sub, sv, nI_1, lT, lF, tT, tF, eF, pF, zT, m1F, vT, cI, true_and, and_true, true_implies, false_implies, not_false_eq_true, not_true_eq_false, forall_eq, implies_true, I_is, I_cl, I_sl, J_is, J_cl, J_sl, R_is, R_cl, R_sl, mI_sJ, mI_sR, mJ_sI, mJ_sR, mR_sI, mR_sJ]
      rw [show 1600 + b1 + 1 = 1600 + (b1 + 1) by omega]
      exact hK) 0 (Nat.zero_le _) (0, ρ) ⟨rfl, hm, Eqv.rf, fun j h => by omega⟩
  have hb : b1 = nw := hb
  subst hb
  have hma : StM ρa := hma
  have fra : Eqv _ ρ ρa := fra
  have e25' : mI ρa 1282 25 = nI (1600 + b1) := (fra.I (by omega)).trans e25
  refine ⟨ρa, hma, fra, fa, fun κ1 Q hQ => run (κ1, Q) (fun K2 => ?_)⟩
  show X_X12_map_267_s G Q 1282 K2 (nI (1600 + b1), mg κ1 ρa)
  have hm := hma
  simp (disch := omega) only [X_X12_map_267_s, mI_m, mR_m, mJ_m, sI_m, sJ_m, hM.1, hM.2, hm.1, hm.2, e25', lT, lF, tT, tF, eF, pF, zT, m1F, vT, cI, true_and, and_true, true_implies, false_implies, not_false_eq_true, not_true_eq_false, forall_eq, implies_true, I_is, I_cl, I_sl, J_is, J_cl, J_sl, R_is, R_cl, R_sl, mI_sJ, mI_sR, mJ_sI, mJ_sR, mR_sI, mR_sJ]
  exact hQ
theorem m_map304 (hM : LyM G) (hm : StM ρ) : ∃ ρ', StM ρ' ∧ Eqv (fun a k => ¬ (a = 1310 ∧ k < 12 ∨ (a = 1316 ∨ a = 1317) ∧ k < 4 ∨ a = 1282 ∧ k = 90)) ρ ρ' ∧ ((∀ f, f < 12 → mI ρ' 1310 f = 0) ∧ (∀ u, u < 4 → mI ρ' 1316 u = 0) ∧ mI ρ' 1282 90 = 0) ∧ ∀ κ1 (Q : Int32 → Mem → Prop), Q (mI ρ 1282 2) (mg κ1 ρ') → X_X12_map_304 G Q 1282 0 (mg κ1 ρ) := by
  have n12 : (12 : Int32) = nI 12 := rfl
  have n4 : (4 : Int32) = nI 4 := rfl
  obtain ⟨⟨b1, ρa⟩, ⟨hb, hma, fra, fa⟩, run⟩ := Lw.run (ι := Mem × (Int32 → Mem → Prop)) (fun z => X_X12_map_304_s G z.2 1282) (fun (b : Nat × Mem) z => (nI b.1, mg z.1 b.2)) 12 (fun i b => b.1 = i ∧ StM b.2 ∧ Eqv (fun a k => ¬ (a = 1310 ∧ k < 12)) ρ b.2 ∧ ∀ j, j < i → mI b.2 1310 j = 0) (by
    rintro i ⟨b1, ρb⟩ hi ⟨hb, hm, fr, ff⟩
    have hb : b1 = i := hb
    subst hb
    have hm : StM ρb := hm
    have fr : Eqv _ ρ ρb := fr
    have ff : ∀ j, j < b1 → mI ρb 1310 j = 0 := ff
    refine ⟨(b1 + 1, sI ρb 1310 b1 0), ⟨rfl, hm.wI _ _ _, fr.sI (fun h => h (by omega)) _, fun j hj => ?_⟩, fun z K hK => ?_⟩
    · show mI (sI ρb _ _ _) 1310 j = _
      by_cases e : j = b1
      · subst e; simp (disch := omega) only [I_is, I_cl, I_sl, J_is, J_cl, J_sl, R_is, R_cl, R_sl, mI_sJ, mI_sR, mJ_sI, mJ_sR, mR_sI, mR_sJ]
      · simp (disch := omega) only [I_is, I_cl, I_sl, J_is, J_cl, J_sl, R_is, R_cl, R_sl, mI_sJ, mI_sR, mJ_sI, mJ_sR, mR_sI, mR_sJ]; exact ff j (by omega)
    · show X_X12_map_304_s G z.2 1282 K (nI b1, mg z.1 ρb)
      simp (disch := omega) only [X_X12_map_304_s, mI_m, mR_m, mJ_m, sI_m, sJ_m, hM.1, hM.2, hm.1, hm.2, n12, nI_1, lT, lF, tT, tF, eF, pF, zT, m1F, vT, cI, true_and, and_true, true_implies, false_implies, not_false_eq_true, not_true_eq_false, forall_eq, implies_true, I_is, I_cl, I_sl, J_is, J_cl, J_sl, R_is, R_cl, R_sl, mI_sJ, mI_sR, mJ_sI, mJ_sR, mR_sI, mR_sJ]
      exact hK) 0 (Nat.zero_le _) (0, ρ) ⟨rfl, hm, Eqv.rf, fun j h => by omega⟩
  have hb : b1 = 12 := hb
  subst hb
  have hma : StM ρa := hma
  have fra : Eqv _ ρ ρa := fra
  have fa : ∀ j, j < 12 → mI ρa 1310 j = 0 := fa
  obtain ⟨⟨b2, ρc⟩, ⟨hb, hmc, frc, fc⟩, run2⟩ := Lw.run (ι := Mem × (Int32 → Mem → Prop)) (fun z => X_X12_map_325_s G z.2 1282) (fun (b : Nat × Mem) z => (nI b.1, mg z.1 b.2)) 4 (fun i b => b.1 = i ∧ StM b.2 ∧ Eqv (fun a k => ¬ ((a = 1316 ∨ a = 1317) ∧ k < 4)) ρa b.2 ∧ ∀ j, j < i → mI b.2 1316 j = 0) (by
    rintro i ⟨b1, ρb⟩ hi ⟨hb, hm, fr, ff⟩
    have hb : b1 = i := hb
    subst hb
    have hm : StM ρb := hm
    have fr : Eqv _ ρa ρb := fr
    have ff : ∀ j, j < b1 → mI ρb 1316 j = 0 := ff
    refine ⟨(b1 + 1, sI (sI ρb 1316 b1 0) 1317 b1 0), ⟨rfl, (hm.wI _ _ _).wI _ _ _, (fr.sI (fun h => h (by omega)) _).sI (fun h => h (by omega)) _, fun j hj => ?_⟩, fun z K hK => ?_⟩
    · show mI (sI (sI ρb _ _ _) _ _ _) 1316 j = _
      by_cases e : j = b1
      · subst e; simp (disch := omega) only [I_is, I_cl, I_sl, J_is, J_cl, J_sl, R_is, R_cl, R_sl, mI_sJ, mI_sR, mJ_sI, mJ_sR, mR_sI, mR_sJ]
      · simp (disch := omega) only [I_is, I_cl, I_sl, J_is, J_cl, J_sl, R_is, R_cl, R_sl, mI_sJ, mI_sR, mJ_sI, mJ_sR, mR_sI, mR_sJ]; exact ff j (by omega)
    · show X_X12_map_325_s G z.2 1282 K (nI b1, mg z.1 ρb)
      have nar : vp_nar .boolean (0 : Int32) = 0 := rfl
      simp (disch := omega) only [X_X12_map_325_s, mI_m, mR_m, mJ_m, sI_m, sJ_m, hM.1, hM.2, hm.1, hm.2, n4, nI_1, nar, lT, lF, tT, tF, eF, pF, zT, m1F, vT, cI, true_and, and_true, true_implies, false_implies, not_false_eq_true, not_true_eq_false, forall_eq, implies_true, I_is, I_cl, I_sl, J_is, J_cl, J_sl, R_is, R_cl, R_sl, mI_sJ, mI_sR, mJ_sI, mJ_sR, mR_sI, mR_sJ]
      exact hK) 0 (Nat.zero_le _) (0, ρa) ⟨rfl, hma, Eqv.rf, fun j h => by omega⟩
  have hb : b2 = 4 := hb
  subst hb
  have hmc : StM ρc := hmc
  have frc : Eqv _ ρa ρc := frc
  have fc : ∀ j, j < 4 → mI ρc 1316 j = 0 := fc
  have e2 : mI ρc 1282 2 = mI ρ 1282 2 := (frc.I (by omega)).trans (fra.I (by omega))
  refine ⟨sI ρc 1282 90 0, hmc.wI _ _ _, ((fra.mo fun a k hh => ?_).tr (frc.mo fun a k hh => ?_)).sI (fun h => h (by omega)) _, ⟨fun f hf => ?_, fun u hu => ?_, I_is _ _ _ _⟩, fun κ1 Q hQ => run (κ1, Q) (fun K2 => ?_)⟩
  · omega
  · omega
  · rw [I_cl (by decide), frc.I (by omega)]; exact fa f hf
  · rw [I_cl (by decide)]; exact fc u hu
  · show X_X12_map_304_s G Q 1282 K2 (nI 12, mg κ1 ρa)
    simp (disch := omega) only [X_X12_map_304_s, n12, lT, lF, tT, tF, eF, pF, zT, m1F, vT, cI, true_and, and_true, true_implies, false_implies, not_false_eq_true, not_true_eq_false, forall_eq, implies_true]
    refine run2 (κ1, Q) (fun K3 => ?_)
    show X_X12_map_325_s G Q 1282 K3 (nI 4, mg κ1 ρc)
    have hm := hmc
    simp (disch := omega) only [X_X12_map_325_s, mI_m, mR_m, mJ_m, sI_m, sJ_m, hM.1, hM.2, hm.1, hm.2, n4, e2, lT, lF, tT, tF, eF, pF, zT, m1F, vT, cI, true_and, and_true, true_implies, false_implies, not_false_eq_true, not_true_eq_false, forall_eq, implies_true, I_is, I_cl, I_sl, J_is, J_cl, J_sl, R_is, R_cl, R_sl, mI_sJ, mI_sR, mJ_sI, mJ_sR, mR_sI, mR_sJ]
    exact hQ
end COPY
