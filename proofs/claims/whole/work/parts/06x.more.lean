def cpOk (G : Lay) (a : Nat) (i : Int32) (b : Nat) (j n : Int32) : Prop := ¬ i < 0 ∧ ¬ j < 0 ∧ ¬ n < 0 ∧ i.toNatClampNeg + n.toNatClampNeg ≤ gL G a ∧ j.toNatClampNeg + n.toNatClampNeg ≤ gL G b
section XY
variable {p : Program} {l : Launch} {e : Env} {R : Room} {s : State} {m : MethodId} {args : Array Value} {below : List Frame} {meth : Method} {c : Code} {H : Heap} {locs : List Loc} {cells slots : Nat} {Q : State → Prop}
variable {D : va_G} {tc : Nat → ClassId} {b0 : Nat} {cc : ByteArray} {own : String} {nL pc : Nat} {ls : Array Slot} {rest : List Value} {σ : Mem} {G : Lay}
set_option maxRecDepth 20000 in
theorem x_copy (C : Cx p s m args meth c cc own nL D tc b0) (hW : Wd G D tc b0 σ H) (hS : va_S (AA b0) s.heap H locs) (hls : ls.size = nL) {index : Nat} (hl : Cond.methodLink own index arraycopyName ∈ gtbl) {a b : Nat} {i j n : Int32} (ha : gT G a = 100) (hb : gT G b = 100) (hk : cpOk G a i b j n) (hfr : 1 ≤ R.frames) (hlo : (rest.map fun v => v.category).sum + (nativeFrameWords "java/lang/System" "arraycopy" 5 + 11) ≤ R.locals) (hdg : decode cc pc = .ok (.invokestatic index, 3)) (kk : ∀ (H1 : Heap) (locs1 : List Loc), Wd G D tc b0 (sC σ a i.toNatClampNeg b j.toNatClampNeg n.toNatClampNeg) H1 → va_S (AA b0) s.heap H1 locs1 → W p l e R s m args below meth c H1 locs1 cells slots Q (F0 m (pc + 3) ls rest)) : W p l e R s m args below meth c H locs cells slots Q (F0 m pc ls (.int n :: .int j :: rv b0 b :: .int i :: rv b0 a :: rest)) := by
  have hg := wd_get (tc := tc) (b0 := b0) (σ := σ) hW.2 (gT_ne ha)
  rw [cel_a ha (by decide), con_i (by omega)] at hg
  have hg2 := wd_get (tc := tc) (b0 := b0) (σ := σ) hW.2 (gT_ne hb)
  rw [cel_a hb (by decide), con_i (by omega)] at hg2
  rw [ref_of hW.2 ha, ref_of hW.2 hb]
  obtain ⟨k1, k2, k3, k4, k5⟩ := hk
  refine va_copyi C.1 C.2.1 (C.2.2.1.trans hls.symm) C.2.2.2.1 (C.2.2.2.2.1 _ hl) (C.2.2.2.2.1 _ (gm 1079 rfl rfl)) (C.2.2.2.2.1 _ (gm 1078 rfl rfl)) (C.2.2.2.2.1 _ (gm 158 rfl rfl)) C.2.2.2.2.2.1 hW.1 (wd_D G tc b0 σ) hS (a - 1) (b - 1) 0 0 hg hg2 rfl rfl rfl k1 k2 k3 k4 k5 (fun _ _ => rfl) hfr hlo hdg (fun H1 locs1 h1 _ h3 => kk H1 locs1 (hW.put hb ?_ (fun q hq => cel_eq ?_ rfl rfl) h1) h3)
  · rw [cel_a hb (by decide), con_i (by omega)]
    have e1 : mI (sC σ a i.toNatClampNeg b j.toNatClampNeg n.toNatClampNeg) b = va_cpy (mI σ a) (mI σ b) i.toNatClampNeg j.toNatClampNeg n.toNatClampNeg := by
      funext k
      simp [mI, sC, va_cpy]
    rw [e1]
  · funext k
    simp [sC, hq]
end XY
theorem tb_out {x : Int32} (n : Nat) (hn : n < 2 ^ 31) (h : ∀ j : Nat, j < n → ¬ x = nI j) : x.toInt < 0 ∨ (n : Int) ≤ x.toInt := by
  rcases pk_ix x hn with h1 | h1 | ⟨j, hj, rfl⟩
  · exact Or.inl (by have := Int32.lt_iff_toInt_lt.mp h1; simpa using this)
  · exact Or.inr (by have := Int32.le_iff_toInt_le.mp h1; rw [nI_toInt hn] at this; exact this)
  · exact absurd rfl (h j hj)
theorem tb_out3 {x : Int32} (h0 : ¬ x = 0) (h1 : ¬ x = 1) (h2 : ¬ x = 2) : x.toInt < 0 ∨ 2 < x.toInt := by
  have := tb_out (x := x) 3 (by decide) (fun j hj => by
    match j, hj with
    | 0, _ => exact h0
    | 1, _ => exact h1
    | 2, _ => exact h2)
  omega
theorem tb_out4 {x : Int32} (h0 : ¬ x = 0) (h1 : ¬ x = 1) (h2 : ¬ x = 2) (h3 : ¬ x = 3) : x.toInt < 0 ∨ 3 < x.toInt := by
  have := tb_out (x := x) 4 (by decide) (fun j hj => by
    match j, hj with
    | 0, _ => exact h0
    | 1, _ => exact h1
    | 2, _ => exact h2
    | 3, _ => exact h3)
  omega
theorem tb_out5 {x : Int32} (h0 : ¬ x = 0) (h1 : ¬ x = 1) (h2 : ¬ x = 2) (h3 : ¬ x = 3) (h4 : ¬ x = 4) : x.toInt < 0 ∨ 4 < x.toInt := by
  have := tb_out (x := x) 5 (by decide) (fun j hj => by
    match j, hj with
    | 0, _ => exact h0
    | 1, _ => exact h1
    | 2, _ => exact h2
    | 3, _ => exact h3
    | 4, _ => exact h4)
  omega
theorem i32_ne {x : Int32} {v : Int} (h : ¬ x = Int32.ofInt v) (hv : (Int32.ofInt v).toInt = v) : ¬ x.toInt = v := fun h2 => h (Int32.toInt_inj.mp (by rw [h2, hv]))
theorem lk_out_X11_fault_1 {x : Int32} (h0 : ¬ x = 0) (h1 : ¬ x = 1) : Op.lookupswitch.offset [(0, 27), (1, 35)] 43 x.toInt = 43 := by
  have a0 : ¬ x.toInt = 0 := i32_ne (v := 0) h0 (by decide)
  have a1 : ¬ x.toInt = 1 := i32_ne (v := 1) h1 (by decide)
  simp [Op.lookupswitch.offset, a0, a1, Ne.symm a0, Ne.symm a1]
theorem lk_out_X11_cell_58 {x : Int32} (h0 : ¬ x = 1) (h1 : ¬ x = 2) : Op.lookupswitch.offset [(1, 26), (2, 38)] 50 x.toInt = 50 := by
  have a0 : ¬ x.toInt = 1 := i32_ne (v := 1) h0 (by decide)
  have a1 : ¬ x.toInt = 2 := i32_ne (v := 2) h1 (by decide)
  simp [Op.lookupswitch.offset, a0, a1, Ne.symm a0, Ne.symm a1]
