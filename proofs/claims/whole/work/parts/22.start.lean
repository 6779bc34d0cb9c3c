def flG : List Cond := flatC (Jvm.Cond.and given_1 narrow_1)
abbrev tmK : Term := .static "BeeRegister$Tokens" "KEYWORDS" "[J"
abbrev tmS : Term := .string "BeeRegister$Tokens" 59
theorem aa_out {s : State} {b0 : Nat} (hb0 : s.heap.size = b0 + 1) : ∀ a : Nat, a < s.heap.size → ¬ AA b0 a := fun a h h2 => by
  have h3 : b0 < a := h2
  omega
set_option maxRecDepth 20000 in
theorem Sx_start {s : State} {b b0 : Nat} (hgv : (Jvm.Cond.and given_1 narrow_1).before #[Value.ref b] s = true) (hts : ∀ w ∈ lw_tbl, w.before #[Value.ref b] s = true) (hb0 : s.heap.size = b0 + 1) : Sx b0 s s.heap := by
  have fl : ∀ c ∈ flG, c.before #[Value.ref b] s = true := flat_of_before _ hgv
  have hA := aa_out hb0
  have hK : ∀ j : Nat, j < 23 → (Term.elem tmK (.int (Int32.ofNat j))).eval #[Value.ref b] s none [] s = some (.long (kwv.getD j 0)) := by
    intro j hj
    match j, hj with
    | 0, _ => exact va_eqtl (fl (.eq (.elem tmK (.int 0)) (.long (kwv.getD 0 0))) (by decide +kernel))
    | 1, _ => exact va_eqtl (fl (.eq (.elem tmK (.int 1)) (.long (kwv.getD 1 0))) (by decide +kernel))
    | 2, _ => exact va_eqtl (fl (.eq (.elem tmK (.int 2)) (.long (kwv.getD 2 0))) (by decide +kernel))
    | 3, _ => exact va_eqtl (fl (.eq (.elem tmK (.int 3)) (.long (kwv.getD 3 0))) (by decide +kernel))
    | 4, _ => exact va_eqtl (fl (.eq (.elem tmK (.int 4)) (.long (kwv.getD 4 0))) (by decide +kernel))
    | 5, _ => exact va_eqtl (fl (.eq (.elem tmK (.int 5)) (.long (kwv.getD 5 0))) (by decide +kernel))
    | 6, _ => exact va_eqtl (fl (.eq (.elem tmK (.int 6)) (.long (kwv.getD 6 0))) (by decide +kernel))
    | 7, _ => exact va_eqtl (fl (.eq (.elem tmK (.int 7)) (.long (kwv.getD 7 0))) (by decide +kernel))
    | 8, _ => exact va_eqtl (fl (.eq (.elem tmK (.int 8)) (.long (kwv.getD 8 0))) (by decide +kernel))
    | 9, _ => exact va_eqtl (fl (.eq (.elem tmK (.int 9)) (.long (kwv.getD 9 0))) (by decide +kernel))
    | 10, _ => exact va_eqtl (fl (.eq (.elem tmK (.int 10)) (.long (kwv.getD 10 0))) (by decide +kernel))
    | 11, _ => exact va_eqtl (fl (.eq (.elem tmK (.int 11)) (.long (kwv.getD 11 0))) (by decide +kernel))
    | 12, _ => exact va_eqtl (fl (.eq (.elem tmK (.int 12)) (.long (kwv.getD 12 0))) (by decide +kernel))
    | 13, _ => exact va_eqtl (fl (.eq (.elem tmK (.int 13)) (.long (kwv.getD 13 0))) (by decide +kernel))
    | 14, _ => exact va_eqtl (fl (.eq (.elem tmK (.int 14)) (.long (kwv.getD 14 0))) (by decide +kernel))
    | 15, _ => exact va_eqtl (fl (.eq (.elem tmK (.int 15)) (.long (kwv.getD 15 0))) (by decide +kernel))
    | 16, _ => exact va_eqtl (fl (.eq (.elem tmK (.int 16)) (.long (kwv.getD 16 0))) (by decide +kernel))
    | 17, _ => exact va_eqtl (fl (.eq (.elem tmK (.int 17)) (.long (kwv.getD 17 0))) (by decide +kernel))
    | 18, _ => exact va_eqtl (fl (.eq (.elem tmK (.int 18)) (.long (kwv.getD 18 0))) (by decide +kernel))
    | 19, _ => exact va_eqtl (fl (.eq (.elem tmK (.int 19)) (.long (kwv.getD 19 0))) (by decide +kernel))
    | 20, _ => exact va_eqtl (fl (.eq (.elem tmK (.int 20)) (.long (kwv.getD 20 0))) (by decide +kernel))
    | 21, _ => exact va_eqtl (fl (.eq (.elem tmK (.int 21)) (.long (kwv.getD 21 0))) (by decide +kernel))
    | 22, _ => exact va_eqtl (fl (.eq (.elem tmK (.int 22)) (.long (kwv.getD 22 0))) (by decide +kernel))
    | k + 23, hk => exact absurd hk (by omega)
  have hE : ∀ j : Nat, j < 13 → (Cond.eq (.elem (.field tmS "java/lang/String" "value" "[B") (.int (Int32.ofNat j))) (.int (sgb.getD j 0))).before #[Value.ref b] s = true := by
    intro j hj
    match j, hj with
    | 0, _ => exact fl (.eq (.elem (.field tmS "java/lang/String" "value" "[B") (.int 0)) (.int (sgb.getD 0 0))) (by decide +kernel)
    | 1, _ => exact fl (.eq (.elem (.field tmS "java/lang/String" "value" "[B") (.int 1)) (.int (sgb.getD 1 0))) (by decide +kernel)
    | 2, _ => exact fl (.eq (.elem (.field tmS "java/lang/String" "value" "[B") (.int 2)) (.int (sgb.getD 2 0))) (by decide +kernel)
    | 3, _ => exact fl (.eq (.elem (.field tmS "java/lang/String" "value" "[B") (.int 3)) (.int (sgb.getD 3 0))) (by decide +kernel)
    | 4, _ => exact fl (.eq (.elem (.field tmS "java/lang/String" "value" "[B") (.int 4)) (.int (sgb.getD 4 0))) (by decide +kernel)
    | 5, _ => exact fl (.eq (.elem (.field tmS "java/lang/String" "value" "[B") (.int 5)) (.int (sgb.getD 5 0))) (by decide +kernel)
    | 6, _ => exact fl (.eq (.elem (.field tmS "java/lang/String" "value" "[B") (.int 6)) (.int (sgb.getD 6 0))) (by decide +kernel)
    | 7, _ => exact fl (.eq (.elem (.field tmS "java/lang/String" "value" "[B") (.int 7)) (.int (sgb.getD 7 0))) (by decide +kernel)
    | 8, _ => exact fl (.eq (.elem (.field tmS "java/lang/String" "value" "[B") (.int 8)) (.int (sgb.getD 8 0))) (by decide +kernel)
    | 9, _ => exact fl (.eq (.elem (.field tmS "java/lang/String" "value" "[B") (.int 9)) (.int (sgb.getD 9 0))) (by decide +kernel)
    | 10, _ => exact fl (.eq (.elem (.field tmS "java/lang/String" "value" "[B") (.int 10)) (.int (sgb.getD 10 0))) (by decide +kernel)
    | 11, _ => exact fl (.eq (.elem (.field tmS "java/lang/String" "value" "[B") (.int 11)) (.int (sgb.getD 11 0))) (by decide +kernel)
    | 12, _ => exact fl (.eq (.elem (.field tmS "java/lang/String" "value" "[B") (.int 12)) (.int (sgb.getD 12 0))) (by decide +kernel)
    | k + 13, hk => exact absurd hk (by omega)
  obtain ⟨t, ht, hT⟩ := va_Tof (tm := tmK) (ty := .long) (N := 23) (f := fun j => .long (kwv.getD j 0)) (A := AA b0) (by decide) (fl (.arrayOf tmK .long) (by decide +kernel)) (va_eqt (fl (.eq (.length tmK) (.int 23)) (by decide +kernel))) hK hA
  have hZ : va_Z "BeeRegister$Tokens" "KEYWORDS" "[J" (.ref t) (AA b0) s s.heap := va_Zref (hts (.laysStatic "BeeRegister$Tokens" "KEYWORDS" "[J") (List.mem_of_getElem? (i := 706) rfl)) (hts (.initialized "BeeRegister$Tokens") (List.mem_of_getElem? (i := 140) rfl)) ht hA
  have hC : va_Z "java/lang/String" "COMPACT_STRINGS" "Z" (.int 1) (AA b0) s s.heap := va_Zof (hts (.laysStatic "java/lang/String" "COMPACT_STRINGS" "Z") (List.mem_of_getElem? (i := 726) rfl)) (hts (.initialized "java/lang/String") (List.mem_of_getElem? (i := 152) rfl)) (va_eqi (fl (.eq (.static "java/lang/String" "COMPACT_STRINGS" "Z") (.int 1)) (by decide +kernel))) hA
  obtain ⟨adK, adV, hV, hVe⟩ := vk_Sof (args := #[Value.ref b]) (s := s) (N := 1) (tm := fun _ => tmS) (len := [13]) (byt := [sgb]) (A := AA b0) (fun i hi => by
      rcases (show i = 0 by omega) with rfl
      decide) (fun i hi => by
      rcases (show i = 0 by omega) with rfl
      exact fl (.exactly tmS "java/lang/String") (by decide +kernel)) (fun i hi => by
      rcases (show i = 0 by omega) with rfl
      exact fl (.eq (.field tmS "java/lang/String" "coder" "B") (.int 0)) (by decide +kernel)) (fun i hi => by
      rcases (show i = 0 by omega) with rfl
      exact fl (.arrayOf (.field tmS "java/lang/String" "value" "[B") .byte) (by decide +kernel)) (fun i hi => by
      rcases (show i = 0 by omega) with rfl
      exact fl (.eq (.length (.field tmS "java/lang/String" "value" "[B")) (.int 13)) (by decide +kernel)) (fun i hi j hj => by
      rcases (show i = 0 by omega) with rfl
      exact hE j hj) (fun i j hi hj hij => absurd (by omega) hij) hA
  exact ⟨t, adK, adV, hZ, hT, hV, vk_R.of (hts (.stringRef "BeeRegister$Tokens" 59 "{}():;,.=<>+-") (List.mem_of_getElem? (i := 712) rfl)) (hVe 0 (by decide)), hC⟩
set_option maxRecDepth 20000 in
theorem Nx_start {s : State} {b : Nat} (hts : ∀ w ∈ lw_tbl, w.before #[Value.ref b] s = true) : Nx s := ⟨va_Nw.of rfl (hts (.methodLinkNest "BeeRegister" 15 ⟨"BeeRegister$Tokens", "<init>", "()V"⟩ "BeeRegister") (List.mem_of_getElem? (i := 170) rfl)), va_Nw.of rfl (hts (.methodLinkNest "BeeRegister" 31 ⟨"BeeRegister$Question", "<init>", "()V"⟩ "BeeRegister") (List.mem_of_getElem? (i := 219) rfl)), va_Nw.of rfl (hts (.methodLinkNest "BeeRegister$Schema" 27 ⟨"BeeRegister$Kind", "<init>", "()V"⟩ "BeeRegister") (List.mem_of_getElem? (i := 277) rfl)), va_Nw.of rfl (hts (.methodLinkNest "BeeRegister$Schema" 28 ⟨"BeeRegister$Member", "<init>", "()V"⟩ "BeeRegister") (List.mem_of_getElem? (i := 338) rfl)), va_AO.of (hts (.arrayOver (.object "BeeRegister$Kind")) (List.mem_of_getElem? (i := 273) rfl)), va_AO.of (hts (.arrayOver (.object "BeeRegister$Member")) (List.mem_of_getElem? (i := 275) rfl)), va_AO.of (hts (.arrayOver (.object "BeeRegister$Thing")) (List.mem_of_getElem? (i := 473) rfl)), va_AO.of (hts (.arrayOver (.object "BeeRegister$Unit")) (List.mem_of_getElem? (i := 466) rfl))⟩
set_option maxRecDepth 20000 in
set_option maxHeartbeats 4000000 in
theorem K_start {s : State} {b : Nat} (hts : ∀ w ∈ lw_tbl, w.before #[Value.ref b] s = true) : ∃ (D : va_G) (tc : Nat → ClassId), va_K D vwCl (tys tc) s := by
  obtain ⟨c0, i0, h0⟩ := u_known (C := RX0) (T := TX0) (N := 3) (n := 3) hts (fun w h => (List.mem_filter.mp (kl_0.2.2.2.1 w h)).1) (hts (.instantiable RX0 3) (List.mem_of_getElem? (i := 202) rfl))
  obtain ⟨c1, i1, h1⟩ := u_known (C := RX1) (T := TX1) (N := 10) (n := 10) hts (fun w h => (List.mem_filter.mp (kl_1.2.2.2.1 w h)).1) (hts (.instantiable RX1 10) (List.mem_of_getElem? (i := 276) rfl))
  obtain ⟨c2, i2, h2⟩ := u_known (C := RX2) (T := TX2) (N := 12) (n := 12) hts (fun w h => (List.mem_filter.mp (kl_2.2.2.2.1 w h)).1) (hts (.instantiable RX2 12) (List.mem_of_getElem? (i := 337) rfl))
  obtain ⟨c3, i3, h3⟩ := u_known (C := RX3) (T := TX3) (N := 4) (n := 4) hts (fun w h => (List.mem_filter.mp (kl_3.2.2.2.1 w h)).1) (hts (.instantiable RX3 4) (List.mem_of_getElem? (i := 218) rfl))
  obtain ⟨c4, i4, h4⟩ := u_known (C := RX4) (T := TX4) (N := 6) (n := 6) hts (fun w h => (List.mem_filter.mp (kl_4.2.2.2.1 w h)).1) (hts (.instantiable RX4 6) (List.mem_of_getElem? (i := 240) rfl))
  obtain ⟨c5, i5, h5⟩ := u_known (C := RX5) (T := TX5) (N := 6) (n := 6) hts (fun w h => (List.mem_filter.mp (kl_5.2.2.2.1 w h)).1) (hts (.instantiable RX5 6) (List.mem_of_getElem? (i := 265) rfl))
  obtain ⟨c6, i6, h6⟩ := u_known (C := RX6) (T := TX6) (N := 6) (n := 6) hts (fun w h => (List.mem_filter.mp (kl_6.2.2.2.1 w h)).1) (hts (.instantiable RX6 6) (List.mem_of_getElem? (i := 267) rfl))
  obtain ⟨c7, i7, h7⟩ := u_known (C := RX7) (T := TX7) (N := 11) (n := 11) hts (fun w h => (List.mem_filter.mp (kl_7.2.2.2.1 w h)).1) (hts (.instantiable RX7 11) (List.mem_of_getElem? (i := 474) rfl))
  obtain ⟨c8, i8, h8⟩ := u_known (C := RX8) (T := TX8) (N := 7) (n := 7) hts (fun w h => (List.mem_filter.mp (kl_8.2.2.2.1 w h)).1) (hts (.instantiable RX8 7) (List.mem_of_getElem? (i := 169) rfl))
  obtain ⟨c9, i9, h9⟩ := u_known (C := RX9) (T := TX9) (N := 8) (n := 8) hts (fun w h => (List.mem_filter.mp (kl_9.2.2.2.1 w h)).1) (hts (.instantiable RX9 8) (List.mem_of_getElem? (i := 467) rfl))
  obtain ⟨c10, i10, h10⟩ := u_known (C := RX10) (T := TX10) (N := 14) (n := 14) hts (fun w h => (List.mem_filter.mp (kl_10.2.2.2.1 w h)).1) (hts (.instantiable RX10 14) (List.mem_of_getElem? (i := 566) rfl))
  obtain ⟨c11, i11, h11⟩ := u_known (C := RX11) (T := TX11) (N := 13) (n := 13) hts (fun w h => (List.mem_filter.mp (kl_11.2.2.2.1 w h)).1) (hts (.instantiable RX11 13) (List.mem_of_getElem? (i := 161) rfl))
  obtain ⟨c12, i12, h12⟩ := u_known (C := RX12) (T := TX12) (N := 95) (n := 95) hts (fun w h => (List.mem_filter.mp (kl_12.2.2.2.1 w h)).1) (hts (.instantiable RX12 95) (List.mem_of_getElem? (i := 1569) rfl))
  obtain ⟨a100, k100, m100, p100, q100, r100⟩ := Cond.arrayClass_spec (args := #[Value.ref b]) (first := s) (o := none) (idx := []) (hts (.arrayClass .int) (List.mem_of_getElem? (i := 199) rfl))
  obtain ⟨a101, k101, m101, p101, q101, r101⟩ := Cond.arrayClass_spec (args := #[Value.ref b]) (first := s) (o := none) (idx := []) (hts (.arrayClass .byte) (List.mem_of_getElem? (i := 198) rfl))
  obtain ⟨a102, k102, m102, p102, q102, r102⟩ := Cond.arrayClass_spec (args := #[Value.ref b]) (first := s) (o := none) (idx := []) (hts (.arrayClass .boolean) (List.mem_of_getElem? (i := 336) rfl))
  obtain ⟨a103, k103, m103, p103, q103, r103⟩ := Cond.arrayClass_spec (args := #[Value.ref b]) (first := s) (o := none) (idx := []) (hts (.arrayClass .long) (List.mem_of_getElem? (i := 200) rfl))
  obtain ⟨m104, a104, k104, u104, -, q104, r104, p104⟩ := Cond.arrayOver_spec (args := #[Value.ref b]) (first := s) (o := none) (idx := []) (hts (.arrayOver (.object "BeeRegister$Kind")) (List.mem_of_getElem? (i := 273) rfl))
  obtain ⟨m105, a105, k105, u105, -, q105, r105, p105⟩ := Cond.arrayOver_spec (args := #[Value.ref b]) (first := s) (o := none) (idx := []) (hts (.arrayOver (.object "BeeRegister$Member")) (List.mem_of_getElem? (i := 275) rfl))
  obtain ⟨m106, a106, k106, u106, -, q106, r106, p106⟩ := Cond.arrayOver_spec (args := #[Value.ref b]) (first := s) (o := none) (idx := []) (hts (.arrayOver (.object "BeeRegister$Thing")) (List.mem_of_getElem? (i := 473) rfl))
  obtain ⟨m107, a107, k107, u107, -, q107, r107, p107⟩ := Cond.arrayOver_spec (args := #[Value.ref b]) (first := s) (o := none) (idx := []) (hts (.arrayOver (.object "BeeRegister$Unit")) (List.mem_of_getElem? (i := 466) rfl))
  refine ⟨(fun k => if k = 0 then c0 else (if k = 1 then c1 else (if k = 2 then c2 else (if k = 3 then c3 else (if k = 4 then c4 else (if k = 5 then c5 else (if k = 6 then c6 else (if k = 7 then c7 else (if k = 8 then c8 else (if k = 9 then c9 else (if k = 10 then c10 else (if k = 11 then c11 else (c12)))))))))))), fun k => if k = 0 then i0 else (if k = 1 then i1 else (if k = 2 then i2 else (if k = 3 then i3 else (if k = 4 then i4 else (if k = 5 then i5 else (if k = 6 then i6 else (if k = 7 then i7 else (if k = 8 then i8 else (if k = 9 then i9 else (if k = 10 then i10 else (if k = 11 then i11 else (i12))))))))))))), fun k => if k = 100 then a100 else (if k = 101 then a101 else (if k = 102 then a102 else (if k = 103 then a103 else (if k = 104 then a104 else (if k = 105 then a105 else (if k = 106 then a106 else (a107))))))), fun k q hq => ?_, fun k q hq => ?_⟩
  · match k, hq with
    | 0, hq => cases hq; exact h0
    | 1, hq => cases hq; exact h1
    | 2, hq => cases hq; exact h2
    | 3, hq => cases hq; exact h3
    | 4, hq => cases hq; exact h4
    | 5, hq => cases hq; exact h5
    | 6, hq => cases hq; exact h6
    | 7, hq => cases hq; exact h7
    | 8, hq => cases hq; exact h8
    | 9, hq => cases hq; exact h9
    | 10, hq => cases hq; exact h10
    | 11, hq => cases hq; exact h11
    | 12, hq => cases hq; exact h12
    | k + 13, hq => simp [vwCl] at hq
  · match k, hq with
    | 0, hq => cases hq; exact ⟨fun n z => ⟨fun k h => (by cases h), k100, q100, m100, r100⟩, p100⟩
    | 1, hq => cases hq; exact ⟨fun n z => ⟨fun k h => (by cases h), k101, q101, m101, r101⟩, p101⟩
    | 2, hq => cases hq; exact ⟨fun n z => ⟨fun k h => (by cases h), k102, q102, m102, r102⟩, p102⟩
    | 3, hq => cases hq; exact ⟨fun n z => ⟨fun k h => (by cases h), k103, q103, m103, r103⟩, p103⟩
    | 4, hq => cases hq; exact ⟨fun n z => ⟨fun k h => (by cases h), k104, q104, m104, r104⟩, k104, m104, q104, r104, u104, p104⟩
    | 5, hq => cases hq; exact ⟨fun n z => ⟨fun k h => (by cases h), k105, q105, m105, r105⟩, k105, m105, q105, r105, u105, p105⟩
    | 6, hq => cases hq; exact ⟨fun n z => ⟨fun k h => (by cases h), k106, q106, m106, r106⟩, k106, m106, q106, r106, u106, p106⟩
    | 7, hq => cases hq; exact ⟨fun n z => ⟨fun k h => (by cases h), k107, q107, m107, r107⟩, k107, m107, q107, r107, u107, p107⟩
    | k + 8, hq => simp [tys] at hq
/-- no cells yet -/
def G00 : Lay := ((0, 0), fun _ => 0, fun _ => 0)
def M00 : Mem := (fun _ _ => 0, fun _ _ => 0, fun _ _ => 0)
/-- WHAT IS LEFT: the two constructors, then the loop over the script -/
def X_all (xs : Nat → Int32) (L : Nat) : Prop := X_X11_init (fun G1 s1 => X_X12_init (fun G2 s2 => gT G2 1 = 12 ∧ gT G2 (gN G1 + 1) = 13 ∧ X_L G2 xs L 1 (gN G1 + 1) s2) (gN G1 + 1) (gA G1 13 0 95) (sZ s1 (gN G1 + 1))) 1 (gA G00 12 0 13) (sZ M00 1)
theorem ct1 {s : State} {b0 nb sb cells slots : Nat} {G : Lay} (hc : Ct s b0 nb sb cells slots G) : cells ≤ gN G := by
  have := hc.2.1
  omega
set_option maxRecDepth 20000 in
set_option maxHeartbeats 4000000 in
theorem whole_of {p : Program} {e : Env} {s : State} {m : MethodId} {below : List Frame} {meth : Method} {c : Code} (l : Launch) {b L : Nat} {xs : Nat → Int32} (C0 : lw_At p s m meth c b L xs) (h : X_all xs L) : W p l e room_1 s m #[Value.ref b] below meth c s.heap [] 0 0 (lw_Z below #[Value.ref b] s) (entryFrame m ([Value.ref b] : List Value).toArray 4) := by
  obtain ⟨hx, hb, hr, hml, hown, hts, hX, hbl, hlocks, hgv⟩ := id C0
  obtain ⟨b0, hb0⟩ : ∃ b0, s.heap.size = b0 + 1 := ⟨s.heap.size - 1, by omega⟩
  obtain ⟨D, tc, hK⟩ := K_start hts
  have hN : Nx s := Nx_start hts
  have C : Cx p s m #[Value.ref b] meth c cL_law RL 4 D tc b0 := ⟨hx, hb, hml, hown, fun w h => hts w (List.mem_filter.mp h).1, hK, hlocks, Sx_start hgv hts hb0⟩
  have hbA : ¬ AA b0 b := aa_out hb0 b hbl
  have hS : va_S (AA b0) s.heap s.heap [] := va_S.rf
  have hW : Wd G00 D tc b0 M00 s.heap := ⟨fun k q hq => by have := (wd_at hq).1; exact absurd this (Nat.not_lt_zero _), fun a ha => absurd rfl ha⟩
  have hc : Ct s b0 (gN G00) (gZ G00) 0 0 G00 := ⟨hb0, rfl, rfl⟩
  have hl : ∃ ls, entryFrame m ([Value.ref b] : List Value).toArray 4 = F0 m 0 ls [] ∧ hLb b0 b ls 4 [none, none, none, none] := by
    refine ⟨_, lg_entry_eq m [Value.ref b] 4, ?_⟩
    have h1 := lv_entry ([Value.ref b]) (n := 4) (Nat.le_of_ble_eq_true rfl)
    refine ⟨⟨h1.1, h1.2.1, fun i v hv => ?_⟩, h1.2.2 (0, .ref b) List.mem_cons_self⟩
    match i, hv with
    | 0, hv => cases hv
    | 1, hv => cases hv
    | 2, hv => cases hv
    | 3, hv => cases hv
  obtain ⟨ls, hfr, hl⟩ := hl
  rw [hfr]
  unfold X_all at h
  refine x_new C hW hS hc (t := 11) kl_11 (by decide) (gc1 22 rfl rfl) (gc1 23 rfl rfl) (gc1 1 rfl rfl) (by decide) (by decide) dL_law_0 (fun H hW hS hc => ?_)
  refine lv_dup hx hb dL_law_3 (rv_cat _ _) ?_
  refine x_ctor (As := []) C hW hS hc hN (T_X11_init l 1 _ _ _ h) (t := 11) rfl yi_X11_init (Or.inl (gc1 24 rfl rfl)) ⟨rfl, rfl, ⟨by decide, by decide⟩, by decide, by decide⟩ rfl hl.1.1 rfl (by simp [rv_cat, cat_i, cat_l]) dL_law_4 (fun G1 s1 H locs h hW hS hc => ?_)
  refine z_astore_n C hl dL_law_7 (by decide) (by decide) rfl (by decide) (fun ls hl => ?_)
  refine x_new C hW hS hc (t := 12) kl_12 (by decide) (gc6 230 rfl rfl) (gc6 231 rfl rfl) (gc1 13 rfl rfl) (by decide) (by decide) dL_law_8 (fun H hW hS hc => ?_)
  refine lv_dup hx hb dL_law_11 (rv_cat _ _) ?_
  refine x_ctor (As := []) C hW hS hc hN (T_X12_init l _ _ _ _ h) (t := 12) (if_pos rfl) yi_X12_init (Or.inl (gc6 232 rfl rfl)) ⟨rfl, rfl, ⟨by decide, by decide⟩, by decide, by decide⟩ rfl hl.1.1 rfl (by simp [rv_cat, cat_i, cat_l]) dL_law_12 (fun G2 s2 H locs h hW hS hc => ?_)
  refine z_astore_n C hl dL_law_15 (by decide) (by decide) rfl (Nat.succ_ne_zero _) (fun ls hl => ?_)
  refine lv_iconst (v := (0 : Int32)) hx hb dL_law_16 (by decide) ?_
  refine z_istore_n C hl dL_law_17 (by decide) (by decide) rfl (fun ls hl => ?_)
  obtain ⟨t11, t12, n, h⟩ := h
  refine W.widen (k := 1347) (n := 147115) (by decide) (by decide) ?_
  exact t_L_n C hX hbl hbA hb0 hr t11 t12 n 0 s2 H locs ls hS hW hl h
/-- the walk of the law out of the pure claim -/
theorem start_of (hpure : ∀ (xs : Nat → Int32) (L : Nat), L ≤ 3072 → X_all xs L) {p : Program} {e : Env} {s : State} {m : MethodId} {below : List Frame} {meth : Method} {c : Code} (l : Launch) {b L : Nat} {xs : Nat → Int32} (hL : L ≤ 3072) (C0 : lw_At p s m meth c b L xs) : W p l e room_1 s m #[Value.ref b] below meth c s.heap [] 0 0 (lw_Z below #[Value.ref b] s) (entryFrame m ([Value.ref b] : List Value).toArray 4) := whole_of l C0 (hpure xs L hL)
