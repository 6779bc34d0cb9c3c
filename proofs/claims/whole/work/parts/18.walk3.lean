/-! X0_init -/
set_option maxRecDepth 20000 in
set_option maxHeartbeats 4000000 in
theorem t_X0_init_0 {p : Program} {l : Launch} {e : Env} {s : State} {m : MethodId} {args : Array Value} {below : List Frame} {meth : Method} {c : Code} {D : va_G} {tc : Nat → ClassId} {b0 : Nat} {G0 : Lay} {Qx : Lay → Mem → Prop} {H : Heap} {locs : List Loc} {ls : Array Slot} {cells slots : Nat} {G : Lay} {σ : Mem} {l0 : Nat} {l1 : Nat} (C : Cx p s m args meth c cX0_init RX0 2 D tc b0) (hr : meth.sig.returnType = none) (hin : meth.name = "<init>") (hN : Nx s) (hS : va_S (AA b0) s.heap H locs) (hW : Wd G D tc b0 σ H) (hl : hL b0 ls 2 [some (.inr (.inr l0)), some (.inr (.inr l1))]) (hc : Ct s b0 (gN G0) (gZ G0) cells slots G) (h : X_X0_init_0 Qx G0 l0 l1 G σ) : W p l e rm_X0_init s m args below meth c H locs cells slots (MQ below (va_Qv (S := Lay × Mem) (fun u => Qx u.1 u.2 ∧ gN u.1 = gN G0 + 0 ∧ gZ u.1 = gZ G0 + 0) (fun u t => Pw u.1 D tc b0 u.2 t) (AA b0)) args s 0 0 (AA b0)) (F0 m 0 ls []) := by
  have hx := C.1
  have hb := C.2.1
  unfold X_X0_init_0 at h
  refine x_aload_n C hl dX0_init_0 rfl ?_
  have t1 := h.1
  replace h := h.2
  refine x_obj C hW hl.1 (t := 0) t1 (gc1 68 rfl rfl) (gc1 28 rfl rfl) (gc1 29 rfl rfl) dX0_init_1 ⟨by decide, by decide⟩ ?_
  refine x_aload_n C hl dX0_init_4 rfl ?_
  refine x_aload_n C hl dX0_init_5 rfl ?_
  refine x_putFR C hW hS (t := 0) (k := 0) t1 kl_0 (by decide) fl_X0_9 rfl hin rfl rfl (fun o => by cases o <;> rfl) (fun o => by cases o <;> rfl) dX0_init_6 (fun H locs hW hS => ?_)
  obtain ⟨s2, e_s2⟩ : ∃ z : Mem, z = sR σ l0 0 l1 := ⟨_, rfl⟩
  replace h := h s2 e_s2
  replace hW : Wd G D tc b0 s2 H := by rw [e_s2]; exact hW
  exact r_c C hr hW hS hc h.1 h.2.1 h.2.2 dX0_init_9
theorem T_X0_init (l : Launch) {D : va_G} {tc : Nat → ClassId} {b0 : Nat} (l0 : Nat) (l1 : Nat) (G : Lay) (σ : Mem) (Qx : Lay → Mem → Prop) (h : X_X0_init Qx l0 l1 G σ) : MC l yX0_init cX0_init 2 rm_X0_init G D tc b0 [rv b0 l0, rv b0 l1] σ 0 0 Qx :=
  x_entryC (y := yX0_init) [.inr (.inr l0), .inr (.inr l1)] 0 (by decide) (Nat.le_of_ble_eq_true rfl) rfl (fun p e s m args below meth c ls C hr hin hN hW hc hl => t_X0_init_0 C hr hin hN va_S.rf hW hl hc h)
/-! X1_init -/
set_option maxRecDepth 20000 in
set_option maxHeartbeats 4000000 in
theorem t_X1_init_0 {p : Program} {l : Launch} {e : Env} {s : State} {m : MethodId} {args : Array Value} {below : List Frame} {meth : Method} {c : Code} {D : va_G} {tc : Nat → ClassId} {b0 : Nat} {G0 : Lay} {Qx : Lay → Mem → Prop} {H : Heap} {locs : List Loc} {ls : Array Slot} {cells slots : Nat} {G : Lay} {σ : Mem} {l0 : Nat} (C : Cx p s m args meth c cX1_init RX1 1 D tc b0) (hr : meth.sig.returnType = none) (hin : meth.name = "<init>") (hN : Nx s) (hS : va_S (AA b0) s.heap H locs) (hW : Wd G D tc b0 σ H) (hl : hL b0 ls 1 [some (.inr (.inr l0))]) (hc : Ct s b0 (gN G0) (gZ G0) cells slots G) (h : X_X1_init_0 Qx G0 l0 G σ) : W p l e rm_X1_init s m args below meth c H locs cells slots (MQ below (va_Qv (S := Lay × Mem) (fun u => Qx u.1 u.2 ∧ gN u.1 = gN G0 + 4 ∧ gZ u.1 = gZ G0 + 28) (fun u t => Pw u.1 D tc b0 u.2 t) (AA b0)) args s 4 28 (AA b0)) (F0 m 0 ls []) := by
  have hx := C.1
  have hb := C.2.1
  unfold X_X1_init_0 at h
  refine x_aload_n C hl dX1_init_0 rfl ?_
  have t1 := h.1
  replace h := h.2
  refine x_obj C hW hl.1 (t := 1) t1 (gc1 142 rfl rfl) (gc1 28 rfl rfl) (gc1 29 rfl rfl) dX1_init_1 ⟨by decide, by decide⟩ ?_
  refine x_aload_n C hl dX1_init_4 rfl ?_
  refine lv_bipush (v := (16 : Int32)) hx hb dX1_init_5 (by decide) ?_
  have a2 := h.1
  have a3 := h.2.1
  replace h := h.2.2
  refine x_newq C hW hS hc (gc1 143 rfl rfl) hN.2.2.2.2.2.1 (code := 105) (t0 := 5) (n := 16) (by decide) rfl (by decide) (by decide) (by decide) (lim1 hc a2) (lim2 hc a3) dX1_init_7 (fun H hW hS hc => ?_)
  obtain ⟨G4, e_G4⟩ : ∃ z : Lay, z = gA G 105 16 16 := ⟨_, rfl⟩
  obtain ⟨s5, e_s5⟩ : ∃ z : Mem, z = sZ σ (gN G + 1) := ⟨_, rfl⟩
  replace h := h G4 e_G4 s5 e_s5
  replace hW : Wd G4 D tc b0 s5 H := by rw [e_G4, e_s5]; exact hW
  rw [← e_G4] at hc
  have t6 := h.1
  replace h := h.2
  refine x_putFR C hW hS (t := 1) (k := 5) t6 kl_1 (by decide) fl_X1_11 rfl hin rfl rfl (fun o => by cases o <;> rfl) (fun o => by cases o <;> rfl) dX1_init_10 (fun H locs hW hS => ?_)
  obtain ⟨s7, e_s7⟩ : ∃ z : Mem, z = sR s5 l0 5 (gN G + 1) := ⟨_, rfl⟩
  replace h := h s7 e_s7
  replace hW : Wd G4 D tc b0 s7 H := by rw [e_s7]; exact hW
  refine x_aload_n C hl dX1_init_13 rfl ?_
  refine lv_iconst (v := (4 : Int32)) hx hb dX1_init_14 (by decide) ?_
  have a8 := h.1
  have a9 := h.2.1
  replace h := h.2.2
  refine x_newa C hW hS hc (atype := .boolean) (ty := .boolean) rfl (gc1 198 rfl rfl) (code := 102) (t0 := 2) (n := 4) (by decide) rfl (fun _ h => h) (by decide) (by decide) (by decide) (fun cA => con_zi (by decide) cA) (lim1 hc a8) (lim2 hc a9) dX1_init_15 (fun H hW hS hc => ?_)
  obtain ⟨G10, e_G10⟩ : ∃ z : Lay, z = gA G4 102 4 4 := ⟨_, rfl⟩
  obtain ⟨s11, e_s11⟩ : ∃ z : Mem, z = sZ s7 (gN G4 + 1) := ⟨_, rfl⟩
  replace h := h G10 e_G10 s11 e_s11
  replace hW : Wd G10 D tc b0 s11 H := by rw [e_G10, e_s11]; exact hW
  rw [← e_G10] at hc
  have t12 := h.1
  replace h := h.2
  refine x_putFR C hW hS (t := 1) (k := 7) t12 kl_1 (by decide) fl_X1_17 rfl hin rfl rfl (fun o => by cases o <;> rfl) (fun o => by cases o <;> rfl) dX1_init_17 (fun H locs hW hS => ?_)
  obtain ⟨s13, e_s13⟩ : ∃ z : Mem, z = sR s11 l0 7 (gN G4 + 1) := ⟨_, rfl⟩
  replace h := h s13 e_s13
  replace hW : Wd G10 D tc b0 s13 H := by rw [e_s13]; exact hW
  refine x_aload_n C hl dX1_init_20 rfl ?_
  refine lv_iconst (v := (4 : Int32)) hx hb dX1_init_21 (by decide) ?_
  have a14 := h.1
  have a15 := h.2.1
  replace h := h.2.2
  refine x_newa C hW hS hc (atype := .int) (ty := .int) rfl (gc1 61 rfl rfl) (code := 100) (t0 := 0) (n := 4) (by decide) rfl (fun _ h => h) (by decide) (by decide) (by decide) (fun cA => con_zi (by decide) cA) (lim1 hc a14) (lim2 hc a15) dX1_init_22 (fun H hW hS hc => ?_)
  obtain ⟨G16, e_G16⟩ : ∃ z : Lay, z = gA G10 100 4 4 := ⟨_, rfl⟩
  obtain ⟨s17, e_s17⟩ : ∃ z : Mem, z = sZ s13 (gN G10 + 1) := ⟨_, rfl⟩
  replace h := h G16 e_G16 s17 e_s17
  replace hW : Wd G16 D tc b0 s17 H := by rw [e_G16, e_s17]; exact hW
  rw [← e_G16] at hc
  have t18 := h.1
  replace h := h.2
  refine x_putFR C hW hS (t := 1) (k := 8) t18 kl_1 (by decide) fl_X1_21 rfl hin rfl rfl (fun o => by cases o <;> rfl) (fun o => by cases o <;> rfl) dX1_init_24 (fun H locs hW hS => ?_)
  obtain ⟨s19, e_s19⟩ : ∃ z : Mem, z = sR s17 l0 8 (gN G10 + 1) := ⟨_, rfl⟩
  replace h := h s19 e_s19
  replace hW : Wd G16 D tc b0 s19 H := by rw [e_s19]; exact hW
  refine x_aload_n C hl dX1_init_27 rfl ?_
  refine lv_iconst (v := (4 : Int32)) hx hb dX1_init_28 (by decide) ?_
  have a20 := h.1
  have a21 := h.2.1
  replace h := h.2.2
  refine x_newa C hW hS hc (atype := .int) (ty := .int) rfl (gc1 61 rfl rfl) (code := 100) (t0 := 0) (n := 4) (by decide) rfl (fun _ h => h) (by decide) (by decide) (by decide) (fun cA => con_zi (by decide) cA) (lim1 hc a20) (lim2 hc a21) dX1_init_29 (fun H hW hS hc => ?_)
  obtain ⟨G22, e_G22⟩ : ∃ z : Lay, z = gA G16 100 4 4 := ⟨_, rfl⟩
  obtain ⟨s23, e_s23⟩ : ∃ z : Mem, z = sZ s19 (gN G16 + 1) := ⟨_, rfl⟩
  replace h := h G22 e_G22 s23 e_s23
  replace hW : Wd G22 D tc b0 s23 H := by rw [e_G22, e_s23]; exact hW
  rw [← e_G22] at hc
  have t24 := h.1
  replace h := h.2
  refine x_putFR C hW hS (t := 1) (k := 9) t24 kl_1 (by decide) fl_X1_25 rfl hin rfl rfl (fun o => by cases o <;> rfl) (fun o => by cases o <;> rfl) dX1_init_31 (fun H locs hW hS => ?_)
  obtain ⟨s25, e_s25⟩ : ∃ z : Mem, z = sR s23 l0 9 (gN G16 + 1) := ⟨_, rfl⟩
  replace h := h s25 e_s25
  replace hW : Wd G22 D tc b0 s25 H := by rw [e_s25]; exact hW
  exact r_c C hr hW hS hc h.1 h.2.1 h.2.2 dX1_init_34
theorem T_X1_init (l : Launch) {D : va_G} {tc : Nat → ClassId} {b0 : Nat} (l0 : Nat) (G : Lay) (σ : Mem) (Qx : Lay → Mem → Prop) (h : X_X1_init Qx l0 G σ) : MC l yX1_init cX1_init 1 rm_X1_init G D tc b0 [rv b0 l0] σ 4 28 Qx :=
  x_entryC (y := yX1_init) [.inr (.inr l0)] 0 (by decide) (Nat.le_of_ble_eq_true rfl) rfl (fun p e s m args below meth c ls C hr hin hN hW hc hl => t_X1_init_0 C hr hin hN va_S.rf hW hl hc h)
/-! X2_init -/
set_option maxRecDepth 20000 in
set_option maxHeartbeats 4000000 in
theorem t_X2_init_0 {p : Program} {l : Launch} {e : Env} {s : State} {m : MethodId} {args : Array Value} {below : List Frame} {meth : Method} {c : Code} {D : va_G} {tc : Nat → ClassId} {b0 : Nat} {G0 : Lay} {Qx : Lay → Mem → Prop} {H : Heap} {locs : List Loc} {ls : Array Slot} {cells slots : Nat} {G : Lay} {σ : Mem} {l0 : Nat} (C : Cx p s m args meth c cX2_init RX2 1 D tc b0) (hr : meth.sig.returnType = none) (hin : meth.name = "<init>") (hN : Nx s) (hS : va_S (AA b0) s.heap H locs) (hW : Wd G D tc b0 σ H) (hl : hL b0 ls 1 [some (.inr (.inr l0))]) (hc : Ct s b0 (gN G0) (gZ G0) cells slots G) (h : X_X2_init_0 Qx G0 l0 G σ) : W p l e rm_X2_init s m args below meth c H locs cells slots (MQ below (va_Qv (S := Lay × Mem) (fun u => Qx u.1 u.2 ∧ gN u.1 = gN G0 + 0 ∧ gZ u.1 = gZ G0 + 0) (fun u t => Pw u.1 D tc b0 u.2 t) (AA b0)) args s 0 0 (AA b0)) (F0 m 0 ls []) := by
  have hx := C.1
  have hb := C.2.1
  unfold X_X2_init_0 at h
  refine x_aload_n C hl dX2_init_0 rfl ?_
  have t1 := h.1
  replace h := h.2
  refine x_obj C hW hl.1 (t := 2) t1 (gc1 203 rfl rfl) (gc1 28 rfl rfl) (gc1 29 rfl rfl) dX2_init_1 ⟨by decide, by decide⟩ ?_
  exact r_c C hr hW hS hc h.1 h.2.1 h.2.2 dX2_init_4
theorem T_X2_init (l : Launch) {D : va_G} {tc : Nat → ClassId} {b0 : Nat} (l0 : Nat) (G : Lay) (σ : Mem) (Qx : Lay → Mem → Prop) (h : X_X2_init Qx l0 G σ) : MC l yX2_init cX2_init 1 rm_X2_init G D tc b0 [rv b0 l0] σ 0 0 Qx :=
  x_entryC (y := yX2_init) [.inr (.inr l0)] 0 (by decide) (Nat.le_of_ble_eq_true rfl) rfl (fun p e s m args below meth c ls C hr hin hN hW hc hl => t_X2_init_0 C hr hin hN va_S.rf hW hl hc h)
/-! X3_init -/
set_option maxRecDepth 20000 in
set_option maxHeartbeats 4000000 in
theorem t_X3_init_0 {p : Program} {l : Launch} {e : Env} {s : State} {m : MethodId} {args : Array Value} {below : List Frame} {meth : Method} {c : Code} {D : va_G} {tc : Nat → ClassId} {b0 : Nat} {G0 : Lay} {Qx : Lay → Mem → Prop} {H : Heap} {locs : List Loc} {ls : Array Slot} {cells slots : Nat} {G : Lay} {σ : Mem} {l0 : Nat} (C : Cx p s m args meth c cX3_init RX3 1 D tc b0) (hr : meth.sig.returnType = none) (hin : meth.name = "<init>") (hN : Nx s) (hS : va_S (AA b0) s.heap H locs) (hW : Wd G D tc b0 σ H) (hl : hL b0 ls 1 [some (.inr (.inr l0))]) (hc : Ct s b0 (gN G0) (gZ G0) cells slots G) (h : X_X3_init_0 Qx G0 l0 G σ) : W p l e rm_X3_init s m args below meth c H locs cells slots (MQ below (va_Qv (S := Lay × Mem) (fun u => Qx u.1 u.2 ∧ gN u.1 = gN G0 + 2 ∧ gZ u.1 = gZ G0 + 6064) (fun u t => Pw u.1 D tc b0 u.2 t) (AA b0)) args s 2 6064 (AA b0)) (F0 m 0 ls []) := by
  have hx := C.1
  have hb := C.2.1
  unfold X_X3_init_0 at h
  refine x_aload_n C hl dX3_init_0 rfl ?_
  have t1 := h.1
  replace h := h.2
  refine x_obj C hW hl.1 (t := 3) t1 (gc1 84 rfl rfl) (gc1 28 rfl rfl) (gc1 29 rfl rfl) dX3_init_1 ⟨by decide, by decide⟩ ?_
  refine x_aload_n C hl dX3_init_4 rfl ?_
  refine lv_sipush (v := (6000 : Int32)) hx hb dX3_init_5 (by decide) ?_
  have a2 := h.1
  have a3 := h.2.1
  replace h := h.2.2
  refine x_newa C hW hS hc (atype := .int) (ty := .int) rfl (gc1 61 rfl rfl) (code := 100) (t0 := 0) (n := 6000) (by decide) rfl (fun _ h => h) (by decide) (by decide) (by decide) (fun cA => con_zi (by decide) cA) (lim1 hc a2) (lim2 hc a3) dX3_init_8 (fun H hW hS hc => ?_)
  obtain ⟨G4, e_G4⟩ : ∃ z : Lay, z = gA G 100 6000 6000 := ⟨_, rfl⟩
  obtain ⟨s5, e_s5⟩ : ∃ z : Mem, z = sZ σ (gN G + 1) := ⟨_, rfl⟩
  replace h := h G4 e_G4 s5 e_s5
  replace hW : Wd G4 D tc b0 s5 H := by rw [e_G4, e_s5]; exact hW
  rw [← e_G4] at hc
  have t6 := h.1
  replace h := h.2
  refine x_putFR C hW hS (t := 3) (k := 2) t6 kl_3 (by decide) fl_X3_9 rfl hin rfl rfl (fun o => by cases o <;> rfl) (fun o => by cases o <;> rfl) dX3_init_10 (fun H locs hW hS => ?_)
  obtain ⟨s7, e_s7⟩ : ∃ z : Mem, z = sR s5 l0 2 (gN G + 1) := ⟨_, rfl⟩
  replace h := h s7 e_s7
  replace hW : Wd G4 D tc b0 s7 H := by rw [e_s7]; exact hW
  refine x_aload_n C hl dX3_init_13 rfl ?_
  refine lv_bipush (v := (64 : Int32)) hx hb dX3_init_14 (by decide) ?_
  have a8 := h.1
  have a9 := h.2.1
  replace h := h.2.2
  refine x_newa C hW hS hc (atype := .int) (ty := .int) rfl (gc1 61 rfl rfl) (code := 100) (t0 := 0) (n := 64) (by decide) rfl (fun _ h => h) (by decide) (by decide) (by decide) (fun cA => con_zi (by decide) cA) (lim1 hc a8) (lim2 hc a9) dX3_init_16 (fun H hW hS hc => ?_)
  obtain ⟨G10, e_G10⟩ : ∃ z : Lay, z = gA G4 100 64 64 := ⟨_, rfl⟩
  obtain ⟨s11, e_s11⟩ : ∃ z : Mem, z = sZ s7 (gN G4 + 1) := ⟨_, rfl⟩
  replace h := h G10 e_G10 s11 e_s11
  replace hW : Wd G10 D tc b0 s11 H := by rw [e_G10, e_s11]; exact hW
  rw [← e_G10] at hc
  have t12 := h.1
  replace h := h.2
  refine x_putFR C hW hS (t := 3) (k := 3) t12 kl_3 (by decide) fl_X3_15 rfl hin rfl rfl (fun o => by cases o <;> rfl) (fun o => by cases o <;> rfl) dX3_init_18 (fun H locs hW hS => ?_)
  obtain ⟨s13, e_s13⟩ : ∃ z : Mem, z = sR s11 l0 3 (gN G4 + 1) := ⟨_, rfl⟩
  replace h := h s13 e_s13
  replace hW : Wd G10 D tc b0 s13 H := by rw [e_s13]; exact hW
  exact r_c C hr hW hS hc h.1 h.2.1 h.2.2 dX3_init_21
theorem T_X3_init (l : Launch) {D : va_G} {tc : Nat → ClassId} {b0 : Nat} (l0 : Nat) (G : Lay) (σ : Mem) (Qx : Lay → Mem → Prop) (h : X_X3_init Qx l0 G σ) : MC l yX3_init cX3_init 1 rm_X3_init G D tc b0 [rv b0 l0] σ 2 6064 Qx :=
  x_entryC (y := yX3_init) [.inr (.inr l0)] 0 (by decide) (Nat.le_of_ble_eq_true rfl) rfl (fun p e s m args below meth c ls C hr hin hN hW hc hl => t_X3_init_0 C hr hin hN va_S.rf hW hl hc h)
/-! X4_init -/
set_option maxRecDepth 20000 in
set_option maxHeartbeats 4000000 in
theorem t_X4_init_0 {p : Program} {l : Launch} {e : Env} {s : State} {m : MethodId} {args : Array Value} {below : List Frame} {meth : Method} {c : Code} {D : va_G} {tc : Nat → ClassId} {b0 : Nat} {G0 : Lay} {Qx : Lay → Mem → Prop} {H : Heap} {locs : List Loc} {ls : Array Slot} {cells slots : Nat} {G : Lay} {σ : Mem} {l0 : Nat} {l1 : Nat} {l2 : Nat} (C : Cx p s m args meth c cX4_init RX4 3 D tc b0) (hr : meth.sig.returnType = none) (hin : meth.name = "<init>") (hN : Nx s) (hS : va_S (AA b0) s.heap H locs) (hW : Wd G D tc b0 σ H) (hl : hL b0 ls 3 [some (.inr (.inr l0)), some (.inr (.inr l1)), some (.inr (.inr l2))]) (hc : Ct s b0 (gN G0) (gZ G0) cells slots G) (h : X_X4_init_0 Qx G0 l0 l1 l2 G σ) : W p l e rm_X4_init s m args below meth c H locs cells slots (MQ below (va_Qv (S := Lay × Mem) (fun u => Qx u.1 u.2 ∧ gN u.1 = gN G0 + 1 ∧ gZ u.1 = gZ G0 + 64) (fun u t => Pw u.1 D tc b0 u.2 t) (AA b0)) args s 1 64 (AA b0)) (F0 m 0 ls []) := by
  have hx := C.1
  have hb := C.2.1
  unfold X_X4_init_0 at h
  refine x_aload_n C hl dX4_init_0 rfl ?_
  have t1 := h.1
  replace h := h.2
  refine x_obj C hW hl.1 (t := 4) t1 (gc1 106 rfl rfl) (gc1 28 rfl rfl) (gc1 29 rfl rfl) dX4_init_1 ⟨by decide, by decide⟩ ?_
  refine x_aload_n C hl dX4_init_4 rfl ?_
  refine lv_bipush (v := (64 : Int32)) hx hb dX4_init_5 (by decide) ?_
  have a2 := h.1
  have a3 := h.2.1
  replace h := h.2.2
  refine x_newa C hW hS hc (atype := .int) (ty := .int) rfl (gc1 61 rfl rfl) (code := 100) (t0 := 0) (n := 64) (by decide) rfl (fun _ h => h) (by decide) (by decide) (by decide) (fun cA => con_zi (by decide) cA) (lim1 hc a2) (lim2 hc a3) dX4_init_7 (fun H hW hS hc => ?_)
  obtain ⟨G4, e_G4⟩ : ∃ z : Lay, z = gA G 100 64 64 := ⟨_, rfl⟩
  obtain ⟨s5, e_s5⟩ : ∃ z : Mem, z = sZ σ (gN G + 1) := ⟨_, rfl⟩
  replace h := h G4 e_G4 s5 e_s5
  replace hW : Wd G4 D tc b0 s5 H := by rw [e_G4, e_s5]; exact hW
  rw [← e_G4] at hc
  have t6 := h.1
  replace h := h.2
  refine x_putFR C hW hS (t := 4) (k := 3) t6 kl_4 (by decide) fl_X4_11 rfl hin rfl rfl (fun o => by cases o <;> rfl) (fun o => by cases o <;> rfl) dX4_init_9 (fun H locs hW hS => ?_)
  obtain ⟨s7, e_s7⟩ : ∃ z : Mem, z = sR s5 l0 3 (gN G + 1) := ⟨_, rfl⟩
  replace h := h s7 e_s7
  replace hW : Wd G4 D tc b0 s7 H := by rw [e_s7]; exact hW
  refine x_aload_n C hl dX4_init_12 rfl ?_
  refine x_aload_n C hl dX4_init_13 rfl ?_
  refine x_putFR C hW hS (t := 4) (k := 0) t6 kl_4 (by decide) fl_X4_15 rfl hin rfl rfl (fun o => by cases o <;> rfl) (fun o => by cases o <;> rfl) dX4_init_14 (fun H locs hW hS => ?_)
  obtain ⟨s8, e_s8⟩ : ∃ z : Mem, z = sR s7 l0 0 l1 := ⟨_, rfl⟩
  replace h := h s8 e_s8
  replace hW : Wd G4 D tc b0 s8 H := by rw [e_s8]; exact hW
  refine x_aload_n C hl dX4_init_17 rfl ?_
  refine x_aload_n C hl dX4_init_18 rfl ?_
  refine x_putFR C hW hS (t := 4) (k := 1) t6 kl_4 (by decide) fl_X4_19 rfl hin rfl rfl (fun o => by cases o <;> rfl) (fun o => by cases o <;> rfl) dX4_init_19 (fun H locs hW hS => ?_)
  obtain ⟨s9, e_s9⟩ : ∃ z : Mem, z = sR s8 l0 1 l2 := ⟨_, rfl⟩
  replace h := h s9 e_s9
  replace hW : Wd G4 D tc b0 s9 H := by rw [e_s9]; exact hW
  exact r_c C hr hW hS hc h.1 h.2.1 h.2.2 dX4_init_22
theorem T_X4_init (l : Launch) {D : va_G} {tc : Nat → ClassId} {b0 : Nat} (l0 : Nat) (l1 : Nat) (l2 : Nat) (G : Lay) (σ : Mem) (Qx : Lay → Mem → Prop) (h : X_X4_init Qx l0 l1 l2 G σ) : MC l yX4_init cX4_init 3 rm_X4_init G D tc b0 [rv b0 l0, rv b0 l1, rv b0 l2] σ 1 64 Qx :=
  x_entryC (y := yX4_init) [.inr (.inr l0), .inr (.inr l1), .inr (.inr l2)] 0 (by decide) (Nat.le_of_ble_eq_true rfl) rfl (fun p e s m args below meth c ls C hr hin hN hW hc hl => t_X4_init_0 C hr hin hN va_S.rf hW hl hc h)
/-! X5_init -/
set_option maxRecDepth 20000 in
set_option maxHeartbeats 4000000 in
theorem t_X5_init_0 {p : Program} {l : Launch} {e : Env} {s : State} {m : MethodId} {args : Array Value} {below : List Frame} {meth : Method} {c : Code} {D : va_G} {tc : Nat → ClassId} {b0 : Nat} {G0 : Lay} {Qx : Lay → Mem → Prop} {H : Heap} {locs : List Loc} {ls : Array Slot} {cells slots : Nat} {G : Lay} {σ : Mem} {l0 : Nat} {l1 : Nat} (C : Cx p s m args meth c cX5_init RX5 2 D tc b0) (hr : meth.sig.returnType = none) (hin : meth.name = "<init>") (hN : Nx s) (hS : va_S (AA b0) s.heap H locs) (hW : Wd G D tc b0 σ H) (hl : hL b0 ls 2 [some (.inr (.inr l0)), some (.inr (.inr l1))]) (hc : Ct s b0 (gN G0) (gZ G0) cells slots G) (h : X_X5_init_0 Qx G0 l0 l1 G σ) : W p l e rm_X5_init s m args below meth c H locs cells slots (MQ below (va_Qv (S := Lay × Mem) (fun u => Qx u.1 u.2 ∧ gN u.1 = gN G0 + 5 ∧ gZ u.1 = gZ G0 + 13692) (fun u t => Pw u.1 D tc b0 u.2 t) (AA b0)) args s 5 13692 (AA b0)) (F0 m 0 ls []) := by
  have hx := C.1
  have hb := C.2.1
  unfold X_X5_init_0 at h
  refine x_aload_n C hl dX5_init_0 rfl ?_
  have t1 := h.1
  replace h := h.2
  refine x_obj C hW hl.1 (t := 5) t1 (gc2 57 rfl rfl) (gc1 28 rfl rfl) (gc1 29 rfl rfl) dX5_init_1 ⟨by decide, by decide⟩ ?_
  refine x_aload_n C hl dX5_init_4 rfl ?_
  refine lv_bipush (v := (12 : Int32)) hx hb dX5_init_5 (by decide) ?_
  have a2 := h.1
  have a3 := h.2.1
  replace h := h.2.2
  refine x_newa C hW hS hc (atype := .int) (ty := .int) rfl (gc1 61 rfl rfl) (code := 100) (t0 := 0) (n := 12) (by decide) rfl (fun _ h => h) (by decide) (by decide) (by decide) (fun cA => con_zi (by decide) cA) (lim1 hc a2) (lim2 hc a3) dX5_init_7 (fun H hW hS hc => ?_)
  obtain ⟨G4, e_G4⟩ : ∃ z : Lay, z = gA G 100 12 12 := ⟨_, rfl⟩
  obtain ⟨s5, e_s5⟩ : ∃ z : Mem, z = sZ σ (gN G + 1) := ⟨_, rfl⟩
  replace h := h G4 e_G4 s5 e_s5
  replace hW : Wd G4 D tc b0 s5 H := by rw [e_G4, e_s5]; exact hW
  rw [← e_G4] at hc
  have t6 := h.1
  replace h := h.2
  refine x_putFR C hW hS (t := 5) (k := 1) t6 kl_5 (by decide) fl_X5_9 rfl hin rfl rfl (fun o => by cases o <;> rfl) (fun o => by cases o <;> rfl) dX5_init_9 (fun H locs hW hS => ?_)
  obtain ⟨s7, e_s7⟩ : ∃ z : Mem, z = sR s5 l0 1 (gN G + 1) := ⟨_, rfl⟩
  replace h := h s7 e_s7
  replace hW : Wd G4 D tc b0 s7 H := by rw [e_s7]; exact hW
  refine x_aload_n C hl dX5_init_12 rfl ?_
  refine lv_sipush (v := (720 : Int32)) hx hb dX5_init_13 (by decide) ?_
  have a8 := h.1
  have a9 := h.2.1
  replace h := h.2.2
  refine x_newa C hW hS hc (atype := .int) (ty := .int) rfl (gc1 61 rfl rfl) (code := 100) (t0 := 0) (n := 720) (by decide) rfl (fun _ h => h) (by decide) (by decide) (by decide) (fun cA => con_zi (by decide) cA) (lim1 hc a8) (lim2 hc a9) dX5_init_16 (fun H hW hS hc => ?_)
  obtain ⟨G10, e_G10⟩ : ∃ z : Lay, z = gA G4 100 720 720 := ⟨_, rfl⟩
  obtain ⟨s11, e_s11⟩ : ∃ z : Mem, z = sZ s7 (gN G4 + 1) := ⟨_, rfl⟩
  replace h := h G10 e_G10 s11 e_s11
  replace hW : Wd G10 D tc b0 s11 H := by rw [e_G10, e_s11]; exact hW
  rw [← e_G10] at hc
  have t12 := h.1
  replace h := h.2
  refine x_putFR C hW hS (t := 5) (k := 2) t12 kl_5 (by decide) fl_X5_15 rfl hin rfl rfl (fun o => by cases o <;> rfl) (fun o => by cases o <;> rfl) dX5_init_18 (fun H locs hW hS => ?_)
  obtain ⟨s13, e_s13⟩ : ∃ z : Mem, z = sR s11 l0 2 (gN G4 + 1) := ⟨_, rfl⟩
  replace h := h s13 e_s13
  replace hW : Wd G10 D tc b0 s13 H := by rw [e_s13]; exact hW
  refine x_aload_n C hl dX5_init_21 rfl ?_
  refine lv_sipush (v := (720 : Int32)) hx hb dX5_init_22 (by decide) ?_
  have a14 := h.1
  have a15 := h.2.1
  replace h := h.2.2
  refine x_newa C hW hS hc (atype := .int) (ty := .int) rfl (gc1 61 rfl rfl) (code := 100) (t0 := 0) (n := 720) (by decide) rfl (fun _ h => h) (by decide) (by decide) (by decide) (fun cA => con_zi (by decide) cA) (lim1 hc a14) (lim2 hc a15) dX5_init_25 (fun H hW hS hc => ?_)
  obtain ⟨G16, e_G16⟩ : ∃ z : Lay, z = gA G10 100 720 720 := ⟨_, rfl⟩
  obtain ⟨s17, e_s17⟩ : ∃ z : Mem, z = sZ s13 (gN G10 + 1) := ⟨_, rfl⟩
  replace h := h G16 e_G16 s17 e_s17
  replace hW : Wd G16 D tc b0 s17 H := by rw [e_G16, e_s17]; exact hW
  rw [← e_G16] at hc
  have t18 := h.1
  replace h := h.2
  refine x_putFR C hW hS (t := 5) (k := 3) t18 kl_5 (by decide) fl_X5_18 rfl hin rfl rfl (fun o => by cases o <;> rfl) (fun o => by cases o <;> rfl) dX5_init_27 (fun H locs hW hS => ?_)
  obtain ⟨s19, e_s19⟩ : ∃ z : Mem, z = sR s17 l0 3 (gN G10 + 1) := ⟨_, rfl⟩
  replace h := h s19 e_s19
  replace hW : Wd G16 D tc b0 s19 H := by rw [e_s19]; exact hW
  refine x_aload_n C hl dX5_init_30 rfl ?_
  refine lv_sipush (v := (720 : Int32)) hx hb dX5_init_31 (by decide) ?_
  have a20 := h.1
  have a21 := h.2.1
  replace h := h.2.2
  refine x_newa C hW hS hc (atype := .int) (ty := .int) rfl (gc1 61 rfl rfl) (code := 100) (t0 := 0) (n := 720) (by decide) rfl (fun _ h => h) (by decide) (by decide) (by decide) (fun cA => con_zi (by decide) cA) (lim1 hc a20) (lim2 hc a21) dX5_init_34 (fun H hW hS hc => ?_)
  obtain ⟨G22, e_G22⟩ : ∃ z : Lay, z = gA G16 100 720 720 := ⟨_, rfl⟩
  obtain ⟨s23, e_s23⟩ : ∃ z : Mem, z = sZ s19 (gN G16 + 1) := ⟨_, rfl⟩
  replace h := h G22 e_G22 s23 e_s23
  replace hW : Wd G22 D tc b0 s23 H := by rw [e_G22, e_s23]; exact hW
  rw [← e_G22] at hc
  have t24 := h.1
  replace h := h.2
  refine x_putFR C hW hS (t := 5) (k := 4) t24 kl_5 (by decide) fl_X5_21 rfl hin rfl rfl (fun o => by cases o <;> rfl) (fun o => by cases o <;> rfl) dX5_init_36 (fun H locs hW hS => ?_)
  obtain ⟨s25, e_s25⟩ : ∃ z : Mem, z = sR s23 l0 4 (gN G16 + 1) := ⟨_, rfl⟩
  replace h := h s25 e_s25
  replace hW : Wd G22 D tc b0 s25 H := by rw [e_s25]; exact hW
  refine x_aload_n C hl dX5_init_39 rfl ?_
  refine lv_sipush (v := (11520 : Int32)) hx hb dX5_init_40 (by decide) ?_
  have a26 := h.1
  have a27 := h.2.1
  replace h := h.2.2
  refine x_newa C hW hS hc (atype := .int) (ty := .int) rfl (gc1 61 rfl rfl) (code := 100) (t0 := 0) (n := 11520) (by decide) rfl (fun _ h => h) (by decide) (by decide) (by decide) (fun cA => con_zi (by decide) cA) (lim1 hc a26) (lim2 hc a27) dX5_init_43 (fun H hW hS hc => ?_)
  obtain ⟨G28, e_G28⟩ : ∃ z : Lay, z = gA G22 100 11520 11520 := ⟨_, rfl⟩
  obtain ⟨s29, e_s29⟩ : ∃ z : Mem, z = sZ s25 (gN G22 + 1) := ⟨_, rfl⟩
  replace h := h G28 e_G28 s29 e_s29
  replace hW : Wd G28 D tc b0 s29 H := by rw [e_G28, e_s29]; exact hW
  rw [← e_G28] at hc
  have t30 := h.1
  replace h := h.2
  refine x_putFR C hW hS (t := 5) (k := 5) t30 kl_5 (by decide) fl_X5_24 rfl hin rfl rfl (fun o => by cases o <;> rfl) (fun o => by cases o <;> rfl) dX5_init_45 (fun H locs hW hS => ?_)
  obtain ⟨s31, e_s31⟩ : ∃ z : Mem, z = sR s29 l0 5 (gN G22 + 1) := ⟨_, rfl⟩
  replace h := h s31 e_s31
  replace hW : Wd G28 D tc b0 s31 H := by rw [e_s31]; exact hW
  refine x_aload_n C hl dX5_init_48 rfl ?_
  refine x_aload_n C hl dX5_init_49 rfl ?_
  refine x_putR C hW hS (t := 5) (k := 0) t30 kl_5 (by decide) fl_X5_27 rfl rfl (fun o => by cases o <;> rfl) (fun o => by cases o <;> rfl) dX5_init_50 (fun H locs hW hS => ?_)
  obtain ⟨s32, e_s32⟩ : ∃ z : Mem, z = sR s31 l0 0 l1 := ⟨_, rfl⟩
  replace h := h s32 e_s32
  replace hW : Wd G28 D tc b0 s32 H := by rw [e_s32]; exact hW
  exact r_c C hr hW hS hc h.1 h.2.1 h.2.2 dX5_init_53
theorem T_X5_init (l : Launch) {D : va_G} {tc : Nat → ClassId} {b0 : Nat} (l0 : Nat) (l1 : Nat) (G : Lay) (σ : Mem) (Qx : Lay → Mem → Prop) (h : X_X5_init Qx l0 l1 G σ) : MC l yX5_init cX5_init 2 rm_X5_init G D tc b0 [rv b0 l0, rv b0 l1] σ 5 13692 Qx :=
  x_entryC (y := yX5_init) [.inr (.inr l0), .inr (.inr l1)] 0 (by decide) (Nat.le_of_ble_eq_true rfl) rfl (fun p e s m args below meth c ls C hr hin hN hW hc hl => t_X5_init_0 C hr hin hN va_S.rf hW hl hc h)
/-! X6_init -/
set_option maxRecDepth 20000 in
set_option maxHeartbeats 4000000 in
theorem t_X6_init_61_n {p : Program} {l : Launch} {e : Env} {s : State} {m : MethodId} {args : Array Value} {below : List Frame} {meth : Method} {c : Code} {D : va_G} {tc : Nat → ClassId} {b0 : Nat} {G0 : Lay} {Qx : Lay → Mem → Prop} {l0 : Nat} (C : Cx p s m args meth c cX6_init RX6 2 D tc b0) (hr : meth.sig.returnType = none) (hin : meth.name = "<init>") (hN : Nx s) (n : Nat) : ∀ (l1 : Int32) (G : Lay) (σ : Mem) (H : Heap) (locs : List Loc) (ls : Array Slot) (cells slots : Nat), va_S (AA b0) s.heap H locs → Wd G D tc b0 σ H → hL b0 ls 2 [some (.inr (.inr l0)), some (.inl l1)] → Ct s b0 (gN G0) (gZ G0) cells slots G → Lp (X_X6_init_61_s Qx G0 l0) n (l1, G, σ) → W p l e rm_X6_init s m args below meth c H locs cells slots (MQ below (va_Qv (S := Lay × Mem) (fun u => Qx u.1 u.2 ∧ gN u.1 = gN G0 + 255 ∧ gZ u.1 = gZ G0 + 4464) (fun u t => Pw u.1 D tc b0 u.2 t) (AA b0)) args s 255 4464 (AA b0)) (F0 m 61 ls []) := by
  have hx := C.1
  have hb := C.2.1
  induction n with
  | zero => intro l1 G σ H locs ls cells slots hS hW hl hc h; exact False.elim h
  | succ n hK61 =>
    intro l1 G σ H locs ls cells slots hS hW hl hc h
    replace h : X_X6_init_61_s Qx G0 l0 (Lp (X_X6_init_61_s Qx G0 l0) n) (l1, G, σ) := h
    unfold X_X6_init_61_s at h
    refine x_iload_n C hl dX6_init_61 rfl ?_
    refine lv_sipush (v := (192 : Int32)) hx hb dX6_init_62 (by decide) ?_
    refine lv_icmp_ge hx hb dX6_init_65 (tgt := 87) rfl (fun hc0 => ?_) (fun hc0 => ?_)
    · replace h := h.1 hc0
      exact r_c C hr hW hS hc h.1 h.2.1 h.2.2 dX6_init_87
    · replace h := h.2 hc0
      refine x_aload_n C hl dX6_init_68 rfl ?_
      have t1 := h.1
      replace h := h.2
      refine x_get C hW (t := 6) (k := 3) t1 kl_6 (by decide) fl_X6_19 (v := rv b0 (mR σ l0 3)) rfl dX6_init_69 ?_
      refine x_iload_n C hl dX6_init_72 rfl ?_
      have a2 := h.1
      have a3 := h.2.1
      replace h := h.2.2
      refine x_new C hW hS hc (t := 2) kl_2 (by decide) (gc1 136 rfl rfl) (gc1 199 rfl rfl) (gc1 9 rfl rfl) (lim1 hc a2) (lim2 hc a3) dX6_init_73 (fun H hW hS hc => ?_)
      obtain ⟨G4, e_G4⟩ : ∃ z : Lay, z = gA G 3 0 12 := ⟨_, rfl⟩
      obtain ⟨s5, e_s5⟩ : ∃ z : Mem, z = sZ σ (gN G + 1) := ⟨_, rfl⟩
      replace h := h G4 e_G4 s5 e_s5
      replace hW : Wd G4 D tc b0 s5 H := by rw [e_G4, e_s5]; exact hW
      rw [← e_G4] at hc
      refine lv_dup hx hb dX6_init_76 (rv_cat _ _) ?_
      have a6 := h.1
      have a7 := h.2.1
      replace h := h.2.2
      have t8 := h.1
      replace h := h.2
      refine x_ctor (As := []) C hW hS hc hN (T_X2_init l (gN G + 1) G4 s5 _ h) t8 yi_X2_init (Or.inr ⟨_, hN.2.2.2.1⟩) ⟨rfl, rfl, ⟨by decide, by decide⟩, lim1 hc a6, lim2 hc a7⟩ rfl hl.1 rfl (by simp [rv_cat, cat_i, cat_l]) dX6_init_77 (fun G9 s10 H locs h hW hS hc => ?_)
      have t11 := h.1
      replace h := h.2
      have v12 := h.1
      replace h := h.2
      have t13 := h.1
      replace h := h.2
      refine x_aast C hW hS (t := 104) (t0 := 5) (tv := 2) t11 (by decide) rfl t13 kl_2 v12 dX6_init_80 (fun H locs hW hS => ?_)
      obtain ⟨s14, e_s14⟩ : ∃ z : Mem, z = sR s10 (mR σ l0 3) l1.toNatClampNeg (gN G + 1) := ⟨_, rfl⟩
      replace h := h s14 e_s14
      replace hW : Wd G9 D tc b0 s14 H := by rw [e_s14]; exact hW
      refine x_iinc C hl dX6_init_81 rfl (v := (1 : Int32)) (by decide) (by decide) rfl (fun ls hl => ?_)
      refine lv_goto hx hb dX6_init_84 (tgt := 61) rfl ?_
      exact hK61 _ _ _ _ _ _ _ _ hS hW (hl.keep [true, true] rfl) hc h
theorem t_X6_init_61 {p : Program} {l : Launch} {e : Env} {s : State} {m : MethodId} {args : Array Value} {below : List Frame} {meth : Method} {c : Code} {D : va_G} {tc : Nat → ClassId} {b0 : Nat} {G0 : Lay} {Qx : Lay → Mem → Prop} {H : Heap} {locs : List Loc} {ls : Array Slot} {cells slots : Nat} {G : Lay} {σ : Mem} {l0 : Nat} {l1 : Int32} (C : Cx p s m args meth c cX6_init RX6 2 D tc b0) (hr : meth.sig.returnType = none) (hin : meth.name = "<init>") (hN : Nx s) (hS : va_S (AA b0) s.heap H locs) (hW : Wd G D tc b0 σ H) (hl : hL b0 ls 2 [some (.inr (.inr l0)), some (.inl l1)]) (hc : Ct s b0 (gN G0) (gZ G0) cells slots G) (h : X_X6_init_61 Qx G0 l0 l1 G σ) : W p l e rm_X6_init s m args below meth c H locs cells slots (MQ below (va_Qv (S := Lay × Mem) (fun u => Qx u.1 u.2 ∧ gN u.1 = gN G0 + 255 ∧ gZ u.1 = gZ G0 + 4464) (fun u t => Pw u.1 D tc b0 u.2 t) (AA b0)) args s 255 4464 (AA b0)) (F0 m 61 ls []) := by
  obtain ⟨n, h⟩ := h
  exact t_X6_init_61_n C hr hin hN n l1 G σ H locs ls cells slots hS hW hl hc h
set_option maxRecDepth 20000 in
set_option maxHeartbeats 4000000 in
theorem t_X6_init_34_n {p : Program} {l : Launch} {e : Env} {s : State} {m : MethodId} {args : Array Value} {below : List Frame} {meth : Method} {c : Code} {D : va_G} {tc : Nat → ClassId} {b0 : Nat} {G0 : Lay} {Qx : Lay → Mem → Prop} {l0 : Nat} (C : Cx p s m args meth c cX6_init RX6 2 D tc b0) (hr : meth.sig.returnType = none) (hin : meth.name = "<init>") (hN : Nx s) (n : Nat) : ∀ (l1 : Int32) (G : Lay) (σ : Mem) (H : Heap) (locs : List Loc) (ls : Array Slot) (cells slots : Nat), va_S (AA b0) s.heap H locs → Wd G D tc b0 σ H → hL b0 ls 2 [some (.inr (.inr l0)), some (.inl l1)] → Ct s b0 (gN G0) (gZ G0) cells slots G → Lp (X_X6_init_34_s Qx G0 l0) n (l1, G, σ) → W p l e rm_X6_init s m args below meth c H locs cells slots (MQ below (va_Qv (S := Lay × Mem) (fun u => Qx u.1 u.2 ∧ gN u.1 = gN G0 + 255 ∧ gZ u.1 = gZ G0 + 4464) (fun u t => Pw u.1 D tc b0 u.2 t) (AA b0)) args s 255 4464 (AA b0)) (F0 m 34 ls []) := by
  have hx := C.1
  have hb := C.2.1
  induction n with
  | zero => intro l1 G σ H locs ls cells slots hS hW hl hc h; exact False.elim h
  | succ n hK34 =>
    intro l1 G σ H locs ls cells slots hS hW hl hc h
    replace h : X_X6_init_34_s Qx G0 l0 (Lp (X_X6_init_34_s Qx G0 l0) n) (l1, G, σ) := h
    unfold X_X6_init_34_s at h
    refine x_iload_n C hl dX6_init_34 rfl ?_
    refine lv_bipush (v := (12 : Int32)) hx hb dX6_init_35 (by decide) ?_
    refine lv_icmp_ge hx hb dX6_init_37 (tgt := 59) rfl (fun hc0 => ?_) (fun hc0 => ?_)
    · replace h := h.1 hc0
      refine lv_iconst (v := (0 : Int32)) hx hb dX6_init_59 (by decide) ?_
      refine x_istore_n C hl dX6_init_60 (by decide) rfl (fun ls hl => ?_)
      exact t_X6_init_61 C hr hin hN hS hW (hl.keep [true, true] rfl) hc h
    · replace h := h.2 hc0
      refine x_aload_n C hl dX6_init_40 rfl ?_
      have t1 := h.1
      replace h := h.2
      refine x_get C hW (t := 6) (k := 1) t1 kl_6 (by decide) fl_X6_11 (v := rv b0 (mR σ l0 1)) rfl dX6_init_41 ?_
      refine x_iload_n C hl dX6_init_44 rfl ?_
      have a2 := h.1
      have a3 := h.2.1
      replace h := h.2.2
      refine x_new C hW hS hc (t := 1) kl_1 (by decide) (gc1 134 rfl rfl) (gc1 138 rfl rfl) (gc1 8 rfl rfl) (lim1 hc a2) (lim2 hc a3) dX6_init_45 (fun H hW hS hc => ?_)
      obtain ⟨G4, e_G4⟩ : ∃ z : Lay, z = gA G 2 0 10 := ⟨_, rfl⟩
      obtain ⟨s5, e_s5⟩ : ∃ z : Mem, z = sZ σ (gN G + 1) := ⟨_, rfl⟩
      replace h := h G4 e_G4 s5 e_s5
      replace hW : Wd G4 D tc b0 s5 H := by rw [e_G4, e_s5]; exact hW
      rw [← e_G4] at hc
      refine lv_dup hx hb dX6_init_48 (rv_cat _ _) ?_
      have a6 := h.1
      have a7 := h.2.1
      replace h := h.2.2
      have t8 := h.1
      replace h := h.2
      refine x_ctor (As := []) C hW hS hc hN (T_X1_init l (gN G + 1) G4 s5 _ h) t8 yi_X1_init (Or.inr ⟨_, hN.2.2.1⟩) ⟨rfl, rfl, ⟨by decide, by decide⟩, lim1 hc a6, lim2 hc a7⟩ rfl hl.1 rfl (by simp [rv_cat, cat_i, cat_l]) dX6_init_49 (fun G9 s10 H locs h hW hS hc => ?_)
      have t11 := h.1
      replace h := h.2
      have v12 := h.1
      replace h := h.2
      have t13 := h.1
      replace h := h.2
      refine x_aast C hW hS (t := 103) (t0 := 4) (tv := 1) t11 (by decide) rfl t13 kl_1 v12 dX6_init_52 (fun H locs hW hS => ?_)
      obtain ⟨s14, e_s14⟩ : ∃ z : Mem, z = sR s10 (mR σ l0 1) l1.toNatClampNeg (gN G + 1) := ⟨_, rfl⟩
      replace h := h s14 e_s14
      replace hW : Wd G9 D tc b0 s14 H := by rw [e_s14]; exact hW
      refine x_iinc C hl dX6_init_53 rfl (v := (1 : Int32)) (by decide) (by decide) rfl (fun ls hl => ?_)
      refine lv_goto hx hb dX6_init_56 (tgt := 34) rfl ?_
      exact hK34 _ _ _ _ _ _ _ _ hS hW (hl.keep [true, true] rfl) hc h
theorem t_X6_init_34 {p : Program} {l : Launch} {e : Env} {s : State} {m : MethodId} {args : Array Value} {below : List Frame} {meth : Method} {c : Code} {D : va_G} {tc : Nat → ClassId} {b0 : Nat} {G0 : Lay} {Qx : Lay → Mem → Prop} {H : Heap} {locs : List Loc} {ls : Array Slot} {cells slots : Nat} {G : Lay} {σ : Mem} {l0 : Nat} {l1 : Int32} (C : Cx p s m args meth c cX6_init RX6 2 D tc b0) (hr : meth.sig.returnType = none) (hin : meth.name = "<init>") (hN : Nx s) (hS : va_S (AA b0) s.heap H locs) (hW : Wd G D tc b0 σ H) (hl : hL b0 ls 2 [some (.inr (.inr l0)), some (.inl l1)]) (hc : Ct s b0 (gN G0) (gZ G0) cells slots G) (h : X_X6_init_34 Qx G0 l0 l1 G σ) : W p l e rm_X6_init s m args below meth c H locs cells slots (MQ below (va_Qv (S := Lay × Mem) (fun u => Qx u.1 u.2 ∧ gN u.1 = gN G0 + 255 ∧ gZ u.1 = gZ G0 + 4464) (fun u t => Pw u.1 D tc b0 u.2 t) (AA b0)) args s 255 4464 (AA b0)) (F0 m 34 ls []) := by
  obtain ⟨n, h⟩ := h
  exact t_X6_init_34_n C hr hin hN n l1 G σ H locs ls cells slots hS hW hl hc h
set_option maxRecDepth 20000 in
set_option maxHeartbeats 4000000 in
theorem t_X6_init_0 {p : Program} {l : Launch} {e : Env} {s : State} {m : MethodId} {args : Array Value} {below : List Frame} {meth : Method} {c : Code} {D : va_G} {tc : Nat → ClassId} {b0 : Nat} {G0 : Lay} {Qx : Lay → Mem → Prop} {H : Heap} {locs : List Loc} {ls : Array Slot} {cells slots : Nat} {G : Lay} {σ : Mem} {l0 : Nat} (C : Cx p s m args meth c cX6_init RX6 2 D tc b0) (hr : meth.sig.returnType = none) (hin : meth.name = "<init>") (hN : Nx s) (hS : va_S (AA b0) s.heap H locs) (hW : Wd G D tc b0 σ H) (hl : hL b0 ls 2 [some (.inr (.inr l0)), none]) (hc : Ct s b0 (gN G0) (gZ G0) cells slots G) (h : X_X6_init_0 Qx G0 l0 G σ) : W p l e rm_X6_init s m args below meth c H locs cells slots (MQ below (va_Qv (S := Lay × Mem) (fun u => Qx u.1 u.2 ∧ gN u.1 = gN G0 + 255 ∧ gZ u.1 = gZ G0 + 4464) (fun u t => Pw u.1 D tc b0 u.2 t) (AA b0)) args s 255 4464 (AA b0)) (F0 m 0 ls []) := by
  have hx := C.1
  have hb := C.2.1
  unfold X_X6_init_0 at h
  refine x_aload_n C hl dX6_init_0 rfl ?_
  have t1 := h.1
  replace h := h.2
  refine x_obj C hW hl.1 (t := 6) t1 (gc1 133 rfl rfl) (gc1 28 rfl rfl) (gc1 29 rfl rfl) dX6_init_1 ⟨by decide, by decide⟩ ?_
  refine x_aload_n C hl dX6_init_4 rfl ?_
  refine lv_bipush (v := (12 : Int32)) hx hb dX6_init_5 (by decide) ?_
  have a2 := h.1
  have a3 := h.2.1
  replace h := h.2.2
  refine x_newq C hW hS hc (gc1 134 rfl rfl) hN.2.2.2.2.1 (code := 104) (t0 := 4) (n := 12) (by decide) rfl (by decide) (by decide) (by decide) (lim1 hc a2) (lim2 hc a3) dX6_init_7 (fun H hW hS hc => ?_)
  obtain ⟨G4, e_G4⟩ : ∃ z : Lay, z = gA G 104 12 12 := ⟨_, rfl⟩
  obtain ⟨s5, e_s5⟩ : ∃ z : Mem, z = sZ σ (gN G + 1) := ⟨_, rfl⟩
  replace h := h G4 e_G4 s5 e_s5
  replace hW : Wd G4 D tc b0 s5 H := by rw [e_G4, e_s5]; exact hW
  rw [← e_G4] at hc
  have t6 := h.1
  replace h := h.2
  refine x_putFR C hW hS (t := 6) (k := 1) t6 kl_6 (by decide) fl_X6_11 rfl hin rfl rfl (fun o => by cases o <;> rfl) (fun o => by cases o <;> rfl) dX6_init_10 (fun H locs hW hS => ?_)
  obtain ⟨s7, e_s7⟩ : ∃ z : Mem, z = sR s5 l0 1 (gN G + 1) := ⟨_, rfl⟩
  replace h := h s7 e_s7
  replace hW : Wd G4 D tc b0 s7 H := by rw [e_s7]; exact hW
  refine x_aload_n C hl dX6_init_13 rfl ?_
  refine lv_sipush (v := (192 : Int32)) hx hb dX6_init_14 (by decide) ?_
  have a8 := h.1
  have a9 := h.2.1
  replace h := h.2.2
  refine x_newq C hW hS hc (gc1 136 rfl rfl) hN.2.2.2.2.2.1 (code := 105) (t0 := 5) (n := 192) (by decide) rfl (by decide) (by decide) (by decide) (lim1 hc a8) (lim2 hc a9) dX6_init_17 (fun H hW hS hc => ?_)
  obtain ⟨G10, e_G10⟩ : ∃ z : Lay, z = gA G4 105 192 192 := ⟨_, rfl⟩
  obtain ⟨s11, e_s11⟩ : ∃ z : Mem, z = sZ s7 (gN G4 + 1) := ⟨_, rfl⟩
  replace h := h G10 e_G10 s11 e_s11
  replace hW : Wd G10 D tc b0 s11 H := by rw [e_G10, e_s11]; exact hW
  rw [← e_G10] at hc
  have t12 := h.1
  replace h := h.2
  refine x_putFR C hW hS (t := 6) (k := 3) t12 kl_6 (by decide) fl_X6_19 rfl hin rfl rfl (fun o => by cases o <;> rfl) (fun o => by cases o <;> rfl) dX6_init_20 (fun H locs hW hS => ?_)
  obtain ⟨s13, e_s13⟩ : ∃ z : Mem, z = sR s11 l0 3 (gN G4 + 1) := ⟨_, rfl⟩
  replace h := h s13 e_s13
  replace hW : Wd G10 D tc b0 s13 H := by rw [e_s13]; exact hW
  refine x_aload_n C hl dX6_init_23 rfl ?_
  refine lv_sipush (v := (1500 : Int32)) hx hb dX6_init_24 (by decide) ?_
  have a14 := h.1
  have a15 := h.2.1
  replace h := h.2.2
  refine x_newa C hW hS hc (atype := .long) (ty := .long) rfl (gc1 62 rfl rfl) (code := 103) (t0 := 3) (n := 1500) (by decide) rfl (fun _ h => h) (by decide) (by decide) (by decide) (fun cA => con_zl cA) (lim1 hc a14) (lim2 hc a15) dX6_init_27 (fun H hW hS hc => ?_)
  obtain ⟨G16, e_G16⟩ : ∃ z : Lay, z = gA G10 103 1500 1500 := ⟨_, rfl⟩
  obtain ⟨s17, e_s17⟩ : ∃ z : Mem, z = sZ s13 (gN G10 + 1) := ⟨_, rfl⟩
  replace h := h G16 e_G16 s17 e_s17
  replace hW : Wd G16 D tc b0 s17 H := by rw [e_G16, e_s17]; exact hW
  rw [← e_G16] at hc
  have t18 := h.1
  replace h := h.2
  refine x_putFR C hW hS (t := 6) (k := 5) t18 kl_6 (by decide) fl_X6_23 rfl hin rfl rfl (fun o => by cases o <;> rfl) (fun o => by cases o <;> rfl) dX6_init_29 (fun H locs hW hS => ?_)
  obtain ⟨s19, e_s19⟩ : ∃ z : Mem, z = sR s17 l0 5 (gN G10 + 1) := ⟨_, rfl⟩
  replace h := h s19 e_s19
  replace hW : Wd G16 D tc b0 s19 H := by rw [e_s19]; exact hW
  refine lv_iconst (v := (0 : Int32)) hx hb dX6_init_32 (by decide) ?_
  refine x_istore_n C hl dX6_init_33 (by decide) rfl (fun ls hl => ?_)
  exact t_X6_init_34 C hr hin hN hS hW (hl.keep [true, true] rfl) hc h
theorem T_X6_init (l : Launch) {D : va_G} {tc : Nat → ClassId} {b0 : Nat} (l0 : Nat) (G : Lay) (σ : Mem) (Qx : Lay → Mem → Prop) (h : X_X6_init Qx l0 G σ) : MC l yX6_init cX6_init 2 rm_X6_init G D tc b0 [rv b0 l0] σ 255 4464 Qx :=
  x_entryC (y := yX6_init) [.inr (.inr l0)] 1 (by decide) (Nat.le_of_ble_eq_true rfl) rfl (fun p e s m args below meth c ls C hr hin hN hW hc hl => t_X6_init_0 C hr hin hN va_S.rf hW hl hc h)
/-! X7_init -/
set_option maxRecDepth 20000 in
set_option maxHeartbeats 4000000 in
theorem t_X7_init_0 {p : Program} {l : Launch} {e : Env} {s : State} {m : MethodId} {args : Array Value} {below : List Frame} {meth : Method} {c : Code} {D : va_G} {tc : Nat → ClassId} {b0 : Nat} {G0 : Lay} {Qx : Lay → Mem → Prop} {H : Heap} {locs : List Loc} {ls : Array Slot} {cells slots : Nat} {G : Lay} {σ : Mem} {l0 : Nat} {l1 : Int32} (C : Cx p s m args meth c cX7_init RX7 2 D tc b0) (hr : meth.sig.returnType = none) (hin : meth.name = "<init>") (hN : Nx s) (hS : va_S (AA b0) s.heap H locs) (hW : Wd G D tc b0 σ H) (hl : hL b0 ls 2 [some (.inr (.inr l0)), some (.inl l1)]) (hc : Ct s b0 (gN G0) (gZ G0) cells slots G) (h : X_X7_init_0 Qx G0 l0 l1 G σ) : W p l e rm_X7_init s m args below meth c H locs cells slots (MQ below (va_Qv (S := Lay × Mem) (fun u => Qx u.1 u.2 ∧ gN u.1 = gN G0 + 2 ∧ gZ u.1 = gZ G0 + 32) (fun u t => Pw u.1 D tc b0 u.2 t) (AA b0)) args s 2 32 (AA b0)) (F0 m 0 ls []) := by
  have hx := C.1
  have hb := C.2.1
  unfold X_X7_init_0 at h
  refine x_aload_n C hl dX7_init_0 rfl ?_
  have t1 := h.1
  replace h := h.2
  refine x_obj C hW hl.1 (t := 7) t1 (gc2 100 rfl rfl) (gc1 28 rfl rfl) (gc1 29 rfl rfl) dX7_init_1 ⟨by decide, by decide⟩ ?_
  refine x_aload_n C hl dX7_init_4 rfl ?_
  refine lv_bipush (v := (16 : Int32)) hx hb dX7_init_5 (by decide) ?_
  have a2 := h.1
  have a3 := h.2.1
  replace h := h.2.2
  refine x_newa C hW hS hc (atype := .int) (ty := .int) rfl (gc1 61 rfl rfl) (code := 100) (t0 := 0) (n := 16) (by decide) rfl (fun _ h => h) (by decide) (by decide) (by decide) (fun cA => con_zi (by decide) cA) (lim1 hc a2) (lim2 hc a3) dX7_init_7 (fun H hW hS hc => ?_)
  obtain ⟨G4, e_G4⟩ : ∃ z : Lay, z = gA G 100 16 16 := ⟨_, rfl⟩
  obtain ⟨s5, e_s5⟩ : ∃ z : Mem, z = sZ σ (gN G + 1) := ⟨_, rfl⟩
  replace h := h G4 e_G4 s5 e_s5
  replace hW : Wd G4 D tc b0 s5 H := by rw [e_G4, e_s5]; exact hW
  rw [← e_G4] at hc
  have t6 := h.1
  replace h := h.2
  refine x_putFR C hW hS (t := 7) (k := 6) t6 kl_7 (by decide) fl_X7_9 rfl hin rfl rfl (fun o => by cases o <;> rfl) (fun o => by cases o <;> rfl) dX7_init_9 (fun H locs hW hS => ?_)
  obtain ⟨s7, e_s7⟩ : ∃ z : Mem, z = sR s5 l0 6 (gN G + 1) := ⟨_, rfl⟩
  replace h := h s7 e_s7
  replace hW : Wd G4 D tc b0 s7 H := by rw [e_s7]; exact hW
  refine x_aload_n C hl dX7_init_12 rfl ?_
  refine lv_bipush (v := (16 : Int32)) hx hb dX7_init_13 (by decide) ?_
  have a8 := h.1
  have a9 := h.2.1
  replace h := h.2.2
  refine x_newa C hW hS hc (atype := .int) (ty := .int) rfl (gc1 61 rfl rfl) (code := 100) (t0 := 0) (n := 16) (by decide) rfl (fun _ h => h) (by decide) (by decide) (by decide) (fun cA => con_zi (by decide) cA) (lim1 hc a8) (lim2 hc a9) dX7_init_15 (fun H hW hS hc => ?_)
  obtain ⟨G10, e_G10⟩ : ∃ z : Lay, z = gA G4 100 16 16 := ⟨_, rfl⟩
  obtain ⟨s11, e_s11⟩ : ∃ z : Mem, z = sZ s7 (gN G4 + 1) := ⟨_, rfl⟩
  replace h := h G10 e_G10 s11 e_s11
  replace hW : Wd G10 D tc b0 s11 H := by rw [e_G10, e_s11]; exact hW
  rw [← e_G10] at hc
  have t12 := h.1
  replace h := h.2
  refine x_putFR C hW hS (t := 7) (k := 7) t12 kl_7 (by decide) fl_X7_15 rfl hin rfl rfl (fun o => by cases o <;> rfl) (fun o => by cases o <;> rfl) dX7_init_17 (fun H locs hW hS => ?_)
  obtain ⟨s13, e_s13⟩ : ∃ z : Mem, z = sR s11 l0 7 (gN G4 + 1) := ⟨_, rfl⟩
  replace h := h s13 e_s13
  replace hW : Wd G10 D tc b0 s13 H := by rw [e_s13]; exact hW
  refine x_aload_n C hl dX7_init_20 rfl ?_
  refine x_iload_n C hl dX7_init_21 rfl ?_
  refine x_putFI C hW hS (t := 7) (k := 0) t12 kl_7 (by decide) fl_X7_18 rfl hin rfl rfl rfl rfl dX7_init_22 (fun H locs hW hS => ?_)
  obtain ⟨s14, e_s14⟩ : ∃ z : Mem, z = sI s13 l0 0 l1 := ⟨_, rfl⟩
  replace h := h s14 e_s14
  replace hW : Wd G10 D tc b0 s14 H := by rw [e_s14]; exact hW
  exact r_c C hr hW hS hc h.1 h.2.1 h.2.2 dX7_init_25
theorem T_X7_init (l : Launch) {D : va_G} {tc : Nat → ClassId} {b0 : Nat} (l0 : Nat) (l1 : Int32) (G : Lay) (σ : Mem) (Qx : Lay → Mem → Prop) (h : X_X7_init Qx l0 l1 G σ) : MC l yX7_init cX7_init 2 rm_X7_init G D tc b0 [rv b0 l0, .int l1] σ 2 32 Qx :=
  x_entryC (y := yX7_init) [.inr (.inr l0), .inl l1] 0 (by decide) (Nat.le_of_ble_eq_true rfl) rfl (fun p e s m args below meth c ls C hr hin hN hW hc hl => t_X7_init_0 C hr hin hN va_S.rf hW hl hc h)
/-! X8_init -/
set_option maxRecDepth 20000 in
set_option maxHeartbeats 4000000 in
theorem t_X8_init_0 {p : Program} {l : Launch} {e : Env} {s : State} {m : MethodId} {args : Array Value} {below : List Frame} {meth : Method} {c : Code} {D : va_G} {tc : Nat → ClassId} {b0 : Nat} {G0 : Lay} {Qx : Lay → Mem → Prop} {H : Heap} {locs : List Loc} {ls : Array Slot} {cells slots : Nat} {G : Lay} {σ : Mem} {l0 : Nat} (C : Cx p s m args meth c cX8_init RX8 1 D tc b0) (hr : meth.sig.returnType = none) (hin : meth.name = "<init>") (hN : Nx s) (hS : va_S (AA b0) s.heap H locs) (hW : Wd G D tc b0 σ H) (hl : hL b0 ls 1 [some (.inr (.inr l0))]) (hc : Ct s b0 (gN G0) (gZ G0) cells slots G) (h : X_X8_init_0 Qx G0 l0 G σ) : W p l e rm_X8_init s m args below meth c H locs cells slots (MQ below (va_Qv (S := Lay × Mem) (fun u => Qx u.1 u.2 ∧ gN u.1 = gN G0 + 3 ∧ gZ u.1 = gZ G0 + 9003) (fun u t => Pw u.1 D tc b0 u.2 t) (AA b0)) args s 3 9003 (AA b0)) (F0 m 0 ls []) := by
  have hx := C.1
  have hb := C.2.1
  unfold X_X8_init_0 at h
  refine x_aload_n C hl dX8_init_0 rfl ?_
  have t1 := h.1
  replace h := h.2
  refine x_obj C hW hl.1 (t := 8) t1 (gc1 35 rfl rfl) (gc1 28 rfl rfl) (gc1 29 rfl rfl) dX8_init_1 ⟨by decide, by decide⟩ ?_
  refine x_aload_n C hl dX8_init_4 rfl ?_
  refine lv_sipush (v := (3001 : Int32)) hx hb dX8_init_5 (by decide) ?_
  have a2 := h.1
  have a3 := h.2.1
  replace h := h.2.2
  refine x_newa C hW hS hc (atype := .int) (ty := .int) rfl (gc1 61 rfl rfl) (code := 100) (t0 := 0) (n := 3001) (by decide) rfl (fun _ h => h) (by decide) (by decide) (by decide) (fun cA => con_zi (by decide) cA) (lim1 hc a2) (lim2 hc a3) dX8_init_8 (fun H hW hS hc => ?_)
  obtain ⟨G4, e_G4⟩ : ∃ z : Lay, z = gA G 100 3001 3001 := ⟨_, rfl⟩
  obtain ⟨s5, e_s5⟩ : ∃ z : Mem, z = sZ σ (gN G + 1) := ⟨_, rfl⟩
  replace h := h G4 e_G4 s5 e_s5
  replace hW : Wd G4 D tc b0 s5 H := by rw [e_G4, e_s5]; exact hW
  rw [← e_G4] at hc
  have t6 := h.1
  replace h := h.2
  refine x_putFR C hW hS (t := 8) (k := 0) t6 kl_8 (by decide) fl_X8_9 rfl hin rfl rfl (fun o => by cases o <;> rfl) (fun o => by cases o <;> rfl) dX8_init_10 (fun H locs hW hS => ?_)
  obtain ⟨s7, e_s7⟩ : ∃ z : Mem, z = sR s5 l0 0 (gN G + 1) := ⟨_, rfl⟩
  replace h := h s7 e_s7
  replace hW : Wd G4 D tc b0 s7 H := by rw [e_s7]; exact hW
  refine x_aload_n C hl dX8_init_13 rfl ?_
  refine lv_sipush (v := (3001 : Int32)) hx hb dX8_init_14 (by decide) ?_
  have a8 := h.1
  have a9 := h.2.1
  replace h := h.2.2
  refine x_newa C hW hS hc (atype := .int) (ty := .int) rfl (gc1 61 rfl rfl) (code := 100) (t0 := 0) (n := 3001) (by decide) rfl (fun _ h => h) (by decide) (by decide) (by decide) (fun cA => con_zi (by decide) cA) (lim1 hc a8) (lim2 hc a9) dX8_init_17 (fun H hW hS hc => ?_)
  obtain ⟨G10, e_G10⟩ : ∃ z : Lay, z = gA G4 100 3001 3001 := ⟨_, rfl⟩
  obtain ⟨s11, e_s11⟩ : ∃ z : Mem, z = sZ s7 (gN G4 + 1) := ⟨_, rfl⟩
  replace h := h G10 e_G10 s11 e_s11
  replace hW : Wd G10 D tc b0 s11 H := by rw [e_G10, e_s11]; exact hW
  rw [← e_G10] at hc
  have t12 := h.1
  replace h := h.2
  refine x_putFR C hW hS (t := 8) (k := 1) t12 kl_8 (by decide) fl_X8_15 rfl hin rfl rfl (fun o => by cases o <;> rfl) (fun o => by cases o <;> rfl) dX8_init_19 (fun H locs hW hS => ?_)
  obtain ⟨s13, e_s13⟩ : ∃ z : Mem, z = sR s11 l0 1 (gN G4 + 1) := ⟨_, rfl⟩
  replace h := h s13 e_s13
  replace hW : Wd G10 D tc b0 s13 H := by rw [e_s13]; exact hW
  refine x_aload_n C hl dX8_init_22 rfl ?_
  refine lv_sipush (v := (3001 : Int32)) hx hb dX8_init_23 (by decide) ?_
  have a14 := h.1
  have a15 := h.2.1
  replace h := h.2.2
  refine x_newa C hW hS hc (atype := .long) (ty := .long) rfl (gc1 62 rfl rfl) (code := 103) (t0 := 3) (n := 3001) (by decide) rfl (fun _ h => h) (by decide) (by decide) (by decide) (fun cA => con_zl cA) (lim1 hc a14) (lim2 hc a15) dX8_init_26 (fun H hW hS hc => ?_)
  obtain ⟨G16, e_G16⟩ : ∃ z : Lay, z = gA G10 103 3001 3001 := ⟨_, rfl⟩
  obtain ⟨s17, e_s17⟩ : ∃ z : Mem, z = sZ s13 (gN G10 + 1) := ⟨_, rfl⟩
  replace h := h G16 e_G16 s17 e_s17
  replace hW : Wd G16 D tc b0 s17 H := by rw [e_G16, e_s17]; exact hW
  rw [← e_G16] at hc
  have t18 := h.1
  replace h := h.2
  refine x_putFR C hW hS (t := 8) (k := 2) t18 kl_8 (by decide) fl_X8_18 rfl hin rfl rfl (fun o => by cases o <;> rfl) (fun o => by cases o <;> rfl) dX8_init_28 (fun H locs hW hS => ?_)
  obtain ⟨s19, e_s19⟩ : ∃ z : Mem, z = sR s17 l0 2 (gN G10 + 1) := ⟨_, rfl⟩
  replace h := h s19 e_s19
  replace hW : Wd G16 D tc b0 s19 H := by rw [e_s19]; exact hW
  refine x_aload_n C hl dX8_init_31 rfl ?_
  refine lv_iconst (v := (-1 : Int32)) hx hb dX8_init_32 (by decide) ?_
  refine x_putI C hW hS (t := 8) (k := 6) t18 kl_8 (by decide) fl_X8_22 rfl rfl rfl rfl dX8_init_33 (fun H locs hW hS => ?_)
  obtain ⟨s20, e_s20⟩ : ∃ z : Mem, z = sI s19 l0 6 (-1 : Int32) := ⟨_, rfl⟩
  replace h := h s20 e_s20
  replace hW : Wd G16 D tc b0 s20 H := by rw [e_s20]; exact hW
  exact r_c C hr hW hS hc h.1 h.2.1 h.2.2 dX8_init_36
theorem T_X8_init (l : Launch) {D : va_G} {tc : Nat → ClassId} {b0 : Nat} (l0 : Nat) (G : Lay) (σ : Mem) (Qx : Lay → Mem → Prop) (h : X_X8_init Qx l0 G σ) : MC l yX8_init cX8_init 1 rm_X8_init G D tc b0 [rv b0 l0] σ 3 9003 Qx :=
  x_entryC (y := yX8_init) [.inr (.inr l0)] 0 (by decide) (Nat.le_of_ble_eq_true rfl) rfl (fun p e s m args below meth c ls C hr hin hN hW hc hl => t_X8_init_0 C hr hin hN va_S.rf hW hl hc h)
/-! X9_init -/
set_option maxRecDepth 20000 in
set_option maxHeartbeats 4000000 in
theorem t_X9_init_37_n {p : Program} {l : Launch} {e : Env} {s : State} {m : MethodId} {args : Array Value} {below : List Frame} {meth : Method} {c : Code} {D : va_G} {tc : Nat → ClassId} {b0 : Nat} {G0 : Lay} {Qx : Lay → Mem → Prop} {l0 : Nat} {l1 : Int32} (C : Cx p s m args meth c cX9_init RX9 4 D tc b0) (hr : meth.sig.returnType = none) (hin : meth.name = "<init>") (hN : Nx s) (n : Nat) : ∀ (l3 : Int32) (G : Lay) (σ : Mem) (H : Heap) (locs : List Loc) (ls : Array Slot) (cells slots : Nat), va_S (AA b0) s.heap H locs → Wd G D tc b0 σ H → hL b0 ls 4 [some (.inr (.inr l0)), some (.inl l1), none, some (.inl l3)] → Ct s b0 (gN G0) (gZ G0) cells slots G → Lp (X_X9_init_37_s Qx G0 l0 l1) n (l3, G, σ) → W p l e rm_X9_init s m args below meth c H locs cells slots (MQ below (va_Qv (S := Lay × Mem) (fun u => Qx u.1 u.2 ∧ gN u.1 = gN G0 + 183 ∧ gZ u.1 = gZ G0 + 2820) (fun u t => Pw u.1 D tc b0 u.2 t) (AA b0)) args s 183 2820 (AA b0)) (F0 m 37 ls []) := by
  have hx := C.1
  have hb := C.2.1
  induction n with
  | zero => intro l3 G σ H locs ls cells slots hS hW hl hc h; exact False.elim h
  | succ n hK37 =>
    intro l3 G σ H locs ls cells slots hS hW hl hc h
    replace h : X_X9_init_37_s Qx G0 l0 l1 (Lp (X_X9_init_37_s Qx G0 l0 l1) n) (l3, G, σ) := h
    unfold X_X9_init_37_s at h
    refine x_iload_n C hl dX9_init_37 rfl ?_
    refine lv_bipush (v := (60 : Int32)) hx hb dX9_init_38 (by decide) ?_
    refine lv_icmp_ge hx hb dX9_init_40 (tgt := 68) rfl (fun hc0 => ?_) (fun hc0 => ?_)
    · replace h := h.1 hc0
      exact r_c C hr hW hS hc h.1 h.2.1 h.2.2 dX9_init_68
    · replace h := h.2 hc0
      refine x_aload_n C hl dX9_init_43 rfl ?_
      have t1 := h.1
      replace h := h.2
      refine x_get C hW (t := 9) (k := 1) t1 kl_9 (by decide) fl_X9_11 (v := rv b0 (mR σ l0 1)) rfl dX9_init_44 ?_
      refine x_iload_n C hl dX9_init_47 rfl ?_
      have a2 := h.1
      have a3 := h.2.1
      replace h := h.2.2
      refine x_new C hW hS hc (t := 7) kl_7 (by decide) (gc2 94 rfl rfl) (gc2 96 rfl rfl) (gc1 11 rfl rfl) (lim1 hc a2) (lim2 hc a3) dX9_init_48 (fun H hW hS hc => ?_)
      obtain ⟨G4, e_G4⟩ : ∃ z : Lay, z = gA G 8 0 11 := ⟨_, rfl⟩
      obtain ⟨s5, e_s5⟩ : ∃ z : Mem, z = sZ σ (gN G + 1) := ⟨_, rfl⟩
      replace h := h G4 e_G4 s5 e_s5
      replace hW : Wd G4 D tc b0 s5 H := by rw [e_G4, e_s5]; exact hW
      rw [← e_G4] at hc
      refine lv_dup hx hb dX9_init_51 (rv_cat _ _) ?_
      refine x_iload_n C hl dX9_init_52 rfl ?_
      refine lv_bipush (v := (100 : Int32)) hx hb dX9_init_53 (by decide) ?_
      refine lv_imul hx hb dX9_init_55 ?_
      refine x_iload_n C hl dX9_init_56 rfl ?_
      refine lv_iadd hx hb dX9_init_57 ?_
      have a6 := h.1
      have a7 := h.2.1
      replace h := h.2.2
      have t8 := h.1
      replace h := h.2
      refine x_ctor (As := [.int ((l1 * (100 : Int32)) + l3)]) C hW hS hc hN (T_X7_init l (gN G + 1) ((l1 * (100 : Int32)) + l3) G4 s5 _ h) t8 yi_X7_init (Or.inl (gc2 97 rfl rfl)) ⟨rfl, rfl, ⟨by decide, by decide⟩, lim1 hc a6, lim2 hc a7⟩ rfl hl.1 rfl (by simp [rv_cat, cat_i, cat_l]) dX9_init_58 (fun G9 s10 H locs h hW hS hc => ?_)
      have t11 := h.1
      replace h := h.2
      have v12 := h.1
      replace h := h.2
      have t13 := h.1
      replace h := h.2
      refine x_aast C hW hS (t := 105) (t0 := 6) (tv := 7) t11 (by decide) rfl t13 kl_7 v12 dX9_init_61 (fun H locs hW hS => ?_)
      obtain ⟨s14, e_s14⟩ : ∃ z : Mem, z = sR s10 (mR σ l0 1) l3.toNatClampNeg (gN G + 1) := ⟨_, rfl⟩
      replace h := h s14 e_s14
      replace hW : Wd G9 D tc b0 s14 H := by rw [e_s14]; exact hW
      refine x_iinc C hl dX9_init_62 rfl (v := (1 : Int32)) (by decide) (by decide) rfl (fun ls hl => ?_)
      refine lv_goto hx hb dX9_init_65 (tgt := 37) rfl ?_
      exact hK37 _ _ _ _ _ _ _ _ hS hW (hl.keep [true, true, false, true] rfl) hc h
theorem t_X9_init_37 {p : Program} {l : Launch} {e : Env} {s : State} {m : MethodId} {args : Array Value} {below : List Frame} {meth : Method} {c : Code} {D : va_G} {tc : Nat → ClassId} {b0 : Nat} {G0 : Lay} {Qx : Lay → Mem → Prop} {H : Heap} {locs : List Loc} {ls : Array Slot} {cells slots : Nat} {G : Lay} {σ : Mem} {l0 : Nat} {l1 : Int32} {l3 : Int32} (C : Cx p s m args meth c cX9_init RX9 4 D tc b0) (hr : meth.sig.returnType = none) (hin : meth.name = "<init>") (hN : Nx s) (hS : va_S (AA b0) s.heap H locs) (hW : Wd G D tc b0 σ H) (hl : hL b0 ls 4 [some (.inr (.inr l0)), some (.inl l1), none, some (.inl l3)]) (hc : Ct s b0 (gN G0) (gZ G0) cells slots G) (h : X_X9_init_37 Qx G0 l0 l1 l3 G σ) : W p l e rm_X9_init s m args below meth c H locs cells slots (MQ below (va_Qv (S := Lay × Mem) (fun u => Qx u.1 u.2 ∧ gN u.1 = gN G0 + 183 ∧ gZ u.1 = gZ G0 + 2820) (fun u t => Pw u.1 D tc b0 u.2 t) (AA b0)) args s 183 2820 (AA b0)) (F0 m 37 ls []) := by
  obtain ⟨n, h⟩ := h
  exact t_X9_init_37_n C hr hin hN n l3 G σ H locs ls cells slots hS hW hl hc h
set_option maxRecDepth 20000 in
set_option maxHeartbeats 4000000 in
theorem t_X9_init_0 {p : Program} {l : Launch} {e : Env} {s : State} {m : MethodId} {args : Array Value} {below : List Frame} {meth : Method} {c : Code} {D : va_G} {tc : Nat → ClassId} {b0 : Nat} {G0 : Lay} {Qx : Lay → Mem → Prop} {H : Heap} {locs : List Loc} {ls : Array Slot} {cells slots : Nat} {G : Lay} {σ : Mem} {l0 : Nat} {l1 : Int32} {l2 : Nat} (C : Cx p s m args meth c cX9_init RX9 4 D tc b0) (hr : meth.sig.returnType = none) (hin : meth.name = "<init>") (hN : Nx s) (hS : va_S (AA b0) s.heap H locs) (hW : Wd G D tc b0 σ H) (hl : hL b0 ls 4 [some (.inr (.inr l0)), some (.inl l1), some (.inr (.inr l2)), none]) (hc : Ct s b0 (gN G0) (gZ G0) cells slots G) (h : X_X9_init_0 Qx G0 l0 l1 l2 G σ) : W p l e rm_X9_init s m args below meth c H locs cells slots (MQ below (va_Qv (S := Lay × Mem) (fun u => Qx u.1 u.2 ∧ gN u.1 = gN G0 + 183 ∧ gZ u.1 = gZ G0 + 2820) (fun u t => Pw u.1 D tc b0 u.2 t) (AA b0)) args s 183 2820 (AA b0)) (F0 m 0 ls []) := by
  have hx := C.1
  have hb := C.2.1
  unfold X_X9_init_0 at h
  refine x_aload_n C hl dX9_init_0 rfl ?_
  have t1 := h.1
  replace h := h.2
  refine x_obj C hW hl.1 (t := 9) t1 (gc2 93 rfl rfl) (gc1 28 rfl rfl) (gc1 29 rfl rfl) dX9_init_1 ⟨by decide, by decide⟩ ?_
  refine x_aload_n C hl dX9_init_4 rfl ?_
  refine lv_bipush (v := (60 : Int32)) hx hb dX9_init_5 (by decide) ?_
  have a2 := h.1
  have a3 := h.2.1
  replace h := h.2.2
  refine x_newq C hW hS hc (gc2 94 rfl rfl) hN.2.2.2.2.2.2.1 (code := 106) (t0 := 6) (n := 60) (by decide) rfl (by decide) (by decide) (by decide) (lim1 hc a2) (lim2 hc a3) dX9_init_7 (fun H hW hS hc => ?_)
  obtain ⟨G4, e_G4⟩ : ∃ z : Lay, z = gA G 106 60 60 := ⟨_, rfl⟩
  obtain ⟨s5, e_s5⟩ : ∃ z : Mem, z = sZ σ (gN G + 1) := ⟨_, rfl⟩
  replace h := h G4 e_G4 s5 e_s5
  replace hW : Wd G4 D tc b0 s5 H := by rw [e_G4, e_s5]; exact hW
  rw [← e_G4] at hc
  have t6 := h.1
  replace h := h.2
  refine x_putFR C hW hS (t := 9) (k := 1) t6 kl_9 (by decide) fl_X9_11 rfl hin rfl rfl (fun o => by cases o <;> rfl) (fun o => by cases o <;> rfl) dX9_init_10 (fun H locs hW hS => ?_)
  obtain ⟨s7, e_s7⟩ : ∃ z : Mem, z = sR s5 l0 1 (gN G + 1) := ⟨_, rfl⟩
  replace h := h s7 e_s7
  replace hW : Wd G4 D tc b0 s7 H := by rw [e_s7]; exact hW
  refine x_aload_n C hl dX9_init_13 rfl ?_
  refine lv_bipush (v := (60 : Int32)) hx hb dX9_init_14 (by decide) ?_
  have a8 := h.1
  have a9 := h.2.1
  replace h := h.2.2
  refine x_newq C hW hS hc (gc2 94 rfl rfl) hN.2.2.2.2.2.2.1 (code := 106) (t0 := 6) (n := 60) (by decide) rfl (by decide) (by decide) (by decide) (lim1 hc a8) (lim2 hc a9) dX9_init_16 (fun H hW hS hc => ?_)
  obtain ⟨G10, e_G10⟩ : ∃ z : Lay, z = gA G4 106 60 60 := ⟨_, rfl⟩
  obtain ⟨s11, e_s11⟩ : ∃ z : Mem, z = sZ s7 (gN G4 + 1) := ⟨_, rfl⟩
  replace h := h G10 e_G10 s11 e_s11
  replace hW : Wd G10 D tc b0 s11 H := by rw [e_G10, e_s11]; exact hW
  rw [← e_G10] at hc
  have t12 := h.1
  replace h := h.2
  refine x_putFR C hW hS (t := 9) (k := 2) t12 kl_9 (by decide) fl_X9_17 rfl hin rfl rfl (fun o => by cases o <;> rfl) (fun o => by cases o <;> rfl) dX9_init_19 (fun H locs hW hS => ?_)
  obtain ⟨s13, e_s13⟩ : ∃ z : Mem, z = sR s11 l0 2 (gN G4 + 1) := ⟨_, rfl⟩
  replace h := h s13 e_s13
  replace hW : Wd G10 D tc b0 s13 H := by rw [e_s13]; exact hW
  refine x_aload_n C hl dX9_init_22 rfl ?_
  refine lv_bipush (v := (120 : Int32)) hx hb dX9_init_23 (by decide) ?_
  have a14 := h.1
  have a15 := h.2.1
  replace h := h.2.2
  refine x_newa C hW hS hc (atype := .int) (ty := .int) rfl (gc1 61 rfl rfl) (code := 100) (t0 := 0) (n := 120) (by decide) rfl (fun _ h => h) (by decide) (by decide) (by decide) (fun cA => con_zi (by decide) cA) (lim1 hc a14) (lim2 hc a15) dX9_init_25 (fun H hW hS hc => ?_)
  obtain ⟨G16, e_G16⟩ : ∃ z : Lay, z = gA G10 100 120 120 := ⟨_, rfl⟩
  obtain ⟨s17, e_s17⟩ : ∃ z : Mem, z = sZ s13 (gN G10 + 1) := ⟨_, rfl⟩
  replace h := h G16 e_G16 s17 e_s17
  replace hW : Wd G16 D tc b0 s17 H := by rw [e_G16, e_s17]; exact hW
  rw [← e_G16] at hc
  have t18 := h.1
  replace h := h.2
  refine x_putFR C hW hS (t := 9) (k := 3) t18 kl_9 (by decide) fl_X9_20 rfl hin rfl rfl (fun o => by cases o <;> rfl) (fun o => by cases o <;> rfl) dX9_init_27 (fun H locs hW hS => ?_)
  obtain ⟨s19, e_s19⟩ : ∃ z : Mem, z = sR s17 l0 3 (gN G10 + 1) := ⟨_, rfl⟩
  replace h := h s19 e_s19
  replace hW : Wd G16 D tc b0 s19 H := by rw [e_s19]; exact hW
  refine x_aload_n C hl dX9_init_30 rfl ?_
  refine x_aload_n C hl dX9_init_31 rfl ?_
  refine x_putFR C hW hS (t := 9) (k := 0) t18 kl_9 (by decide) fl_X9_24 rfl hin rfl rfl (fun o => by cases o <;> rfl) (fun o => by cases o <;> rfl) dX9_init_32 (fun H locs hW hS => ?_)
  obtain ⟨s20, e_s20⟩ : ∃ z : Mem, z = sR s19 l0 0 l2 := ⟨_, rfl⟩
  replace h := h s20 e_s20
  replace hW : Wd G16 D tc b0 s20 H := by rw [e_s20]; exact hW
  refine lv_iconst (v := (0 : Int32)) hx hb dX9_init_35 (by decide) ?_
  refine x_istore_n C hl dX9_init_36 (by decide) rfl (fun ls hl => ?_)
  exact t_X9_init_37 C hr hin hN hS hW (hl.keep [true, true, false, true] rfl) hc h
theorem T_X9_init (l : Launch) {D : va_G} {tc : Nat → ClassId} {b0 : Nat} (l0 : Nat) (l1 : Int32) (l2 : Nat) (G : Lay) (σ : Mem) (Qx : Lay → Mem → Prop) (h : X_X9_init Qx l0 l1 l2 G σ) : MC l yX9_init cX9_init 4 rm_X9_init G D tc b0 [rv b0 l0, .int l1, rv b0 l2] σ 183 2820 Qx :=
  x_entryC (y := yX9_init) [.inr (.inr l0), .inl l1, .inr (.inr l2)] 1 (by decide) (Nat.le_of_ble_eq_true rfl) rfl (fun p e s m args below meth c ls C hr hin hN hW hc hl => t_X9_init_0 C hr hin hN va_S.rf hW hl hc h)
/-! X10_init -/
set_option maxRecDepth 20000 in
set_option maxHeartbeats 4000000 in
theorem t_X10_init_0 {p : Program} {l : Launch} {e : Env} {s : State} {m : MethodId} {args : Array Value} {below : List Frame} {meth : Method} {c : Code} {D : va_G} {tc : Nat → ClassId} {b0 : Nat} {G0 : Lay} {Qx : Lay → Mem → Prop} {H : Heap} {locs : List Loc} {ls : Array Slot} {cells slots : Nat} {G : Lay} {σ : Mem} {l0 : Nat} {l1 : Nat} (C : Cx p s m args meth c cX10_init RX10 2 D tc b0) (hr : meth.sig.returnType = none) (hin : meth.name = "<init>") (hN : Nx s) (hS : va_S (AA b0) s.heap H locs) (hW : Wd G D tc b0 σ H) (hl : hL b0 ls 2 [some (.inr (.inr l0)), some (.inr (.inr l1))]) (hc : Ct s b0 (gN G0) (gZ G0) cells slots G) (h : X_X10_init_0 Qx G0 l0 l1 G σ) : W p l e rm_X10_init s m args below meth c H locs cells slots (MQ below (va_Qv (S := Lay × Mem) (fun u => Qx u.1 u.2 ∧ gN u.1 = gN G0 + 11 ∧ gZ u.1 = gZ G0 + 14238) (fun u t => Pw u.1 D tc b0 u.2 t) (AA b0)) args s 11 14238 (AA b0)) (F0 m 0 ls []) := by
  have hx := C.1
  have hb := C.2.1
  unfold X_X10_init_0 at h
  refine x_aload_n C hl dX10_init_0 rfl ?_
  have t1 := h.1
  replace h := h.2
  refine x_obj C hW hl.1 (t := 10) t1 (gc2 192 rfl rfl) (gc1 28 rfl rfl) (gc1 29 rfl rfl) dX10_init_1 ⟨by decide, by decide⟩ ?_
  refine x_aload_n C hl dX10_init_4 rfl ?_
  refine lv_bipush (v := (60 : Int32)) hx hb dX10_init_5 (by decide) ?_
  have a2 := h.1
  have a3 := h.2.1
  replace h := h.2.2
  refine x_newq C hW hS hc (gc2 193 rfl rfl) hN.2.2.2.2.2.2.1 (code := 106) (t0 := 6) (n := 60) (by decide) rfl (by decide) (by decide) (by decide) (lim1 hc a2) (lim2 hc a3) dX10_init_7 (fun H hW hS hc => ?_)
  obtain ⟨G4, e_G4⟩ : ∃ z : Lay, z = gA G 106 60 60 := ⟨_, rfl⟩
  obtain ⟨s5, e_s5⟩ : ∃ z : Mem, z = sZ σ (gN G + 1) := ⟨_, rfl⟩
  replace h := h G4 e_G4 s5 e_s5
  replace hW : Wd G4 D tc b0 s5 H := by rw [e_G4, e_s5]; exact hW
  rw [← e_G4] at hc
  have t6 := h.1
  replace h := h.2
  refine x_putFR C hW hS (t := 10) (k := 2) t6 kl_10 (by decide) fl_X10_11 rfl hin rfl rfl (fun o => by cases o <;> rfl) (fun o => by cases o <;> rfl) dX10_init_10 (fun H locs hW hS => ?_)
  obtain ⟨s7, e_s7⟩ : ∃ z : Mem, z = sR s5 l0 2 (gN G + 1) := ⟨_, rfl⟩
  replace h := h s7 e_s7
  replace hW : Wd G4 D tc b0 s7 H := by rw [e_s7]; exact hW
  refine x_aload_n C hl dX10_init_13 rfl ?_
  refine lv_iconst (v := (-1 : Int32)) hx hb dX10_init_14 (by decide) ?_
  refine x_putI C hW hS (t := 10) (k := 5) t6 kl_10 (by decide) fl_X10_17 rfl rfl rfl rfl dX10_init_15 (fun H locs hW hS => ?_)
  obtain ⟨s8, e_s8⟩ : ∃ z : Mem, z = sI s7 l0 5 (-1 : Int32) := ⟨_, rfl⟩
  replace h := h s8 e_s8
  replace hW : Wd G4 D tc b0 s8 H := by rw [e_s8]; exact hW
  refine x_aload_n C hl dX10_init_18 rfl ?_
  refine lv_iconst (v := (-1 : Int32)) hx hb dX10_init_19 (by decide) ?_
  refine x_putI C hW hS (t := 10) (k := 6) t6 kl_10 (by decide) fl_X10_21 rfl rfl rfl rfl dX10_init_20 (fun H locs hW hS => ?_)
  obtain ⟨s9, e_s9⟩ : ∃ z : Mem, z = sI s8 l0 6 (-1 : Int32) := ⟨_, rfl⟩
  replace h := h s9 e_s9
  replace hW : Wd G4 D tc b0 s9 H := by rw [e_s9]; exact hW
  refine x_aload_n C hl dX10_init_23 rfl ?_
  refine lv_iconst (v := (-1 : Int32)) hx hb dX10_init_24 (by decide) ?_
  refine x_putI C hW hS (t := 10) (k := 7) t6 kl_10 (by decide) fl_X10_24 rfl rfl rfl rfl dX10_init_25 (fun H locs hW hS => ?_)
  obtain ⟨s10, e_s10⟩ : ∃ z : Mem, z = sI s9 l0 7 (-1 : Int32) := ⟨_, rfl⟩
  replace h := h s10 e_s10
  replace hW : Wd G4 D tc b0 s10 H := by rw [e_s10]; exact hW
  refine x_aload_n C hl dX10_init_28 rfl ?_
  refine lv_iconst (v := (-1 : Int32)) hx hb dX10_init_29 (by decide) ?_
  refine x_putI C hW hS (t := 10) (k := 8) t6 kl_10 (by decide) fl_X10_27 rfl rfl rfl rfl dX10_init_30 (fun H locs hW hS => ?_)
  obtain ⟨s11, e_s11⟩ : ∃ z : Mem, z = sI s10 l0 8 (-1 : Int32) := ⟨_, rfl⟩
  replace h := h s11 e_s11
  replace hW : Wd G4 D tc b0 s11 H := by rw [e_s11]; exact hW
  refine x_aload_n C hl dX10_init_33 rfl ?_
  refine lv_bipush (v := (120 : Int32)) hx hb dX10_init_34 (by decide) ?_
  have a12 := h.1
  have a13 := h.2.1
  replace h := h.2.2
  refine x_newa C hW hS hc (atype := .int) (ty := .int) rfl (gc1 61 rfl rfl) (code := 100) (t0 := 0) (n := 120) (by decide) rfl (fun _ h => h) (by decide) (by decide) (by decide) (fun cA => con_zi (by decide) cA) (lim1 hc a12) (lim2 hc a13) dX10_init_36 (fun H hW hS hc => ?_)
  obtain ⟨G14, e_G14⟩ : ∃ z : Lay, z = gA G4 100 120 120 := ⟨_, rfl⟩
  obtain ⟨s15, e_s15⟩ : ∃ z : Mem, z = sZ s11 (gN G4 + 1) := ⟨_, rfl⟩
  replace h := h G14 e_G14 s15 e_s15
  replace hW : Wd G14 D tc b0 s15 H := by rw [e_G14, e_s15]; exact hW
  rw [← e_G14] at hc
  have t16 := h.1
  replace h := h.2
  refine x_putFR C hW hS (t := 10) (k := 10) t16 kl_10 (by decide) fl_X10_30 rfl hin rfl rfl (fun o => by cases o <;> rfl) (fun o => by cases o <;> rfl) dX10_init_38 (fun H locs hW hS => ?_)
  obtain ⟨s17, e_s17⟩ : ∃ z : Mem, z = sR s15 l0 10 (gN G4 + 1) := ⟨_, rfl⟩
  replace h := h s17 e_s17
  replace hW : Wd G14 D tc b0 s17 H := by rw [e_s17]; exact hW
  refine x_aload_n C hl dX10_init_41 rfl ?_
  refine lv_bipush (v := (120 : Int32)) hx hb dX10_init_42 (by decide) ?_
  have a18 := h.1
  have a19 := h.2.1
  replace h := h.2.2
  refine x_newa C hW hS hc (atype := .int) (ty := .int) rfl (gc1 61 rfl rfl) (code := 100) (t0 := 0) (n := 120) (by decide) rfl (fun _ h => h) (by decide) (by decide) (by decide) (fun cA => con_zi (by decide) cA) (lim1 hc a18) (lim2 hc a19) dX10_init_44 (fun H hW hS hc => ?_)
  obtain ⟨G20, e_G20⟩ : ∃ z : Lay, z = gA G14 100 120 120 := ⟨_, rfl⟩
  obtain ⟨s21, e_s21⟩ : ∃ z : Mem, z = sZ s17 (gN G14 + 1) := ⟨_, rfl⟩
  replace h := h G20 e_G20 s21 e_s21
  replace hW : Wd G20 D tc b0 s21 H := by rw [e_G20, e_s21]; exact hW
  rw [← e_G20] at hc
  have t22 := h.1
  replace h := h.2
  refine x_putFR C hW hS (t := 10) (k := 11) t22 kl_10 (by decide) fl_X10_34 rfl hin rfl rfl (fun o => by cases o <;> rfl) (fun o => by cases o <;> rfl) dX10_init_46 (fun H locs hW hS => ?_)
  obtain ⟨s23, e_s23⟩ : ∃ z : Mem, z = sR s21 l0 11 (gN G14 + 1) := ⟨_, rfl⟩
  replace h := h s23 e_s23
  replace hW : Wd G20 D tc b0 s23 H := by rw [e_s23]; exact hW
  refine x_aload_n C hl dX10_init_49 rfl ?_
  refine lv_bipush (v := (120 : Int32)) hx hb dX10_init_50 (by decide) ?_
  have a24 := h.1
  have a25 := h.2.1
  replace h := h.2.2
  refine x_newa C hW hS hc (atype := .int) (ty := .int) rfl (gc1 61 rfl rfl) (code := 100) (t0 := 0) (n := 120) (by decide) rfl (fun _ h => h) (by decide) (by decide) (by decide) (fun cA => con_zi (by decide) cA) (lim1 hc a24) (lim2 hc a25) dX10_init_52 (fun H hW hS hc => ?_)
  obtain ⟨G26, e_G26⟩ : ∃ z : Lay, z = gA G20 100 120 120 := ⟨_, rfl⟩
  obtain ⟨s27, e_s27⟩ : ∃ z : Mem, z = sZ s23 (gN G20 + 1) := ⟨_, rfl⟩
  replace h := h G26 e_G26 s27 e_s27
  replace hW : Wd G26 D tc b0 s27 H := by rw [e_G26, e_s27]; exact hW
  rw [← e_G26] at hc
  have t28 := h.1
  replace h := h.2
  refine x_putFR C hW hS (t := 10) (k := 12) t28 kl_10 (by decide) fl_X10_37 rfl hin rfl rfl (fun o => by cases o <;> rfl) (fun o => by cases o <;> rfl) dX10_init_54 (fun H locs hW hS => ?_)
  obtain ⟨s29, e_s29⟩ : ∃ z : Mem, z = sR s27 l0 12 (gN G20 + 1) := ⟨_, rfl⟩
  replace h := h s29 e_s29
  replace hW : Wd G26 D tc b0 s29 H := by rw [e_s29]; exact hW
  refine x_aload_n C hl dX10_init_57 rfl ?_
  refine lv_bipush (v := (120 : Int32)) hx hb dX10_init_58 (by decide) ?_
  have a30 := h.1
  have a31 := h.2.1
  replace h := h.2.2
  refine x_newa C hW hS hc (atype := .int) (ty := .int) rfl (gc1 61 rfl rfl) (code := 100) (t0 := 0) (n := 120) (by decide) rfl (fun _ h => h) (by decide) (by decide) (by decide) (fun cA => con_zi (by decide) cA) (lim1 hc a30) (lim2 hc a31) dX10_init_60 (fun H hW hS hc => ?_)
  obtain ⟨G32, e_G32⟩ : ∃ z : Lay, z = gA G26 100 120 120 := ⟨_, rfl⟩
  obtain ⟨s33, e_s33⟩ : ∃ z : Mem, z = sZ s29 (gN G26 + 1) := ⟨_, rfl⟩
  replace h := h G32 e_G32 s33 e_s33
  replace hW : Wd G32 D tc b0 s33 H := by rw [e_G32, e_s33]; exact hW
  rw [← e_G32] at hc
  have t34 := h.1
  replace h := h.2
  refine x_putFR C hW hS (t := 10) (k := 13) t34 kl_10 (by decide) fl_X10_40 rfl hin rfl rfl (fun o => by cases o <;> rfl) (fun o => by cases o <;> rfl) dX10_init_62 (fun H locs hW hS => ?_)
  obtain ⟨s35, e_s35⟩ : ∃ z : Mem, z = sR s33 l0 13 (gN G26 + 1) := ⟨_, rfl⟩
  replace h := h s35 e_s35
  replace hW : Wd G32 D tc b0 s35 H := by rw [e_s35]; exact hW
  refine x_aload_n C hl dX10_init_65 rfl ?_
  refine x_aload_n C hl dX10_init_66 rfl ?_
  refine x_putFR C hW hS (t := 10) (k := 0) t34 kl_10 (by decide) fl_X10_43 rfl hin rfl rfl (fun o => by cases o <;> rfl) (fun o => by cases o <;> rfl) dX10_init_67 (fun H locs hW hS => ?_)
  obtain ⟨s36, e_s36⟩ : ∃ z : Mem, z = sR s35 l0 0 l1 := ⟨_, rfl⟩
  replace h := h s36 e_s36
  replace hW : Wd G32 D tc b0 s36 H := by rw [e_s36]; exact hW
  refine x_aload_n C hl dX10_init_70 rfl ?_
  have a37 := h.1
  have a38 := h.2.1
  replace h := h.2.2
  refine x_new C hW hS hc (t := 5) kl_5 (by decide) (gc2 194 rfl rfl) (gc1 127 rfl rfl) (gc1 6 rfl rfl) (lim1 hc a37) (lim2 hc a38) dX10_init_71 (fun H hW hS hc => ?_)
  obtain ⟨G39, e_G39⟩ : ∃ z : Lay, z = gA G32 6 0 6 := ⟨_, rfl⟩
  obtain ⟨s40, e_s40⟩ : ∃ z : Mem, z = sZ s36 (gN G32 + 1) := ⟨_, rfl⟩
  replace h := h G39 e_G39 s40 e_s40
  replace hW : Wd G39 D tc b0 s40 H := by rw [e_G39, e_s40]; exact hW
  rw [← e_G39] at hc
  refine lv_dup hx hb dX10_init_74 (rv_cat _ _) ?_
  refine x_aload_n C hl dX10_init_75 rfl ?_
  have t41 := h.1
  replace h := h.2
  refine x_get C hW (t := 5) (k := 0) t41 kl_5 (by decide) fl_X10_49 (v := rv b0 (mR s40 l1 0)) rfl dX10_init_76 ?_
  have a42 := h.1
  have a43 := h.2.1
  replace h := h.2.2
  have t44 := h.1
  replace h := h.2
  refine x_ctor (As := [rv b0 (mR s40 l1 0)]) C hW hS hc hN (T_X5_init l (gN G32 + 1) (mR s40 l1 0) G39 s40 _ h) t44 yi_X5_init (Or.inl (gc2 195 rfl rfl)) ⟨rfl, rfl, ⟨by decide, by decide⟩, lim1 hc a42, lim2 hc a43⟩ rfl hl.1 rfl (by simp [rv_cat, cat_i, cat_l]) dX10_init_79 (fun G45 s46 H locs h hW hS hc => ?_)
  have t47 := h.1
  replace h := h.2
  refine x_putFR C hW hS (t := 10) (k := 1) t47 kl_10 (by decide) fl_X10_56 rfl hin rfl rfl (fun o => by cases o <;> rfl) (fun o => by cases o <;> rfl) dX10_init_82 (fun H locs hW hS => ?_)
  obtain ⟨s48, e_s48⟩ : ∃ z : Mem, z = sR s46 l0 1 (gN G32 + 1) := ⟨_, rfl⟩
  replace h := h s48 e_s48
  replace hW : Wd G45 D tc b0 s48 H := by rw [e_s48]; exact hW
  exact r_c C hr hW hS hc h.1 h.2.1 h.2.2 dX10_init_85
theorem T_X10_init (l : Launch) {D : va_G} {tc : Nat → ClassId} {b0 : Nat} (l0 : Nat) (l1 : Nat) (G : Lay) (σ : Mem) (Qx : Lay → Mem → Prop) (h : X_X10_init Qx l0 l1 G σ) : MC l yX10_init cX10_init 2 rm_X10_init G D tc b0 [rv b0 l0, rv b0 l1] σ 11 14238 Qx :=
  x_entryC (y := yX10_init) [.inr (.inr l0), .inr (.inr l1)] 0 (by decide) (Nat.le_of_ble_eq_true rfl) rfl (fun p e s m args below meth c ls C hr hin hN hW hc hl => t_X10_init_0 C hr hin hN va_S.rf hW hl hc h)
/-! X11_init -/
set_option maxRecDepth 20000 in
set_option maxHeartbeats 4000000 in
theorem t_X11_init_116_n {p : Program} {l : Launch} {e : Env} {s : State} {m : MethodId} {args : Array Value} {below : List Frame} {meth : Method} {c : Code} {D : va_G} {tc : Nat → ClassId} {b0 : Nat} {G0 : Lay} {Qx : Lay → Mem → Prop} {l0 : Nat} (C : Cx p s m args meth c cX11_init RX11 2 D tc b0) (hr : meth.sig.returnType = none) (hin : meth.name = "<init>") (hN : Nx s) (n : Nat) : ∀ (l1 : Int32) (G : Lay) (σ : Mem) (H : Heap) (locs : List Loc) (ls : Array Slot) (cells slots : Nat), va_S (AA b0) s.heap H locs → Wd G D tc b0 σ H → hL b0 ls 2 [some (.inr (.inr l0)), some (.inl l1)] → Ct s b0 (gN G0) (gZ G0) cells slots G → Lp (X_X11_init_116_s Qx G0 l0) n (l1, G, σ) → W p l e rm_X11_init s m args below meth c H locs cells slots (MQ below (va_Qv (S := Lay × Mem) (fun u => Qx u.1 u.2 ∧ gN u.1 = gN G0 + 1280 ∧ gZ u.1 = gZ G0 + 66429) (fun u t => Pw u.1 D tc b0 u.2 t) (AA b0)) args s 1280 66429 (AA b0)) (F0 m 116 ls []) := by
  have hx := C.1
  have hb := C.2.1
  induction n with
  | zero => intro l1 G σ H locs ls cells slots hS hW hl hc h; exact False.elim h
  | succ n hK116 =>
    intro l1 G σ H locs ls cells slots hS hW hl hc h
    replace h : X_X11_init_116_s Qx G0 l0 (Lp (X_X11_init_116_s Qx G0 l0) n) (l1, G, σ) := h
    unfold X_X11_init_116_s at h
    refine x_iload_n C hl dX11_init_116 rfl ?_
    refine lv_iconst (v := (4 : Int32)) hx hb dX11_init_117 (by decide) ?_
    refine lv_icmp_ge hx hb dX11_init_118 (tgt := 145) rfl (fun hc0 => ?_) (fun hc0 => ?_)
    · replace h := h.1 hc0
      refine x_aload_n C hl dX11_init_145 rfl ?_
      have a1 := h.1
      have a2 := h.2.1
      replace h := h.2.2
      refine x_new C hW hS hc (t := 10) kl_10 (by decide) (gc2 187 rfl rfl) (gc2 188 rfl rfl) (gc1 12 rfl rfl) (lim1 hc a1) (lim2 hc a2) dX11_init_146 (fun H hW hS hc => ?_)
      obtain ⟨G3, e_G3⟩ : ∃ z : Lay, z = gA G 11 0 14 := ⟨_, rfl⟩
      obtain ⟨s4, e_s4⟩ : ∃ z : Mem, z = sZ σ (gN G + 1) := ⟨_, rfl⟩
      replace h := h G3 e_G3 s4 e_s4
      replace hW : Wd G3 D tc b0 s4 H := by rw [e_G3, e_s4]; exact hW
      rw [← e_G3] at hc
      refine lv_dup hx hb dX11_init_149 (rv_cat _ _) ?_
      refine x_aload_n C hl dX11_init_150 rfl ?_
      have t5 := h.1
      replace h := h.2
      refine x_get C hW (t := 11) (k := 6) t5 kl_11 (by decide) fl_X11_53 (v := rv b0 (mR s4 l0 6)) rfl dX11_init_151 ?_
      have a6 := h.1
      have a7 := h.2.1
      replace h := h.2.2
      have t8 := h.1
      replace h := h.2
      refine x_ctor (As := [rv b0 (mR s4 l0 6)]) C hW hS hc hN (T_X10_init l (gN G + 1) (mR s4 l0 6) G3 s4 _ h) t8 yi_X10_init (Or.inl (gc2 189 rfl rfl)) ⟨rfl, rfl, ⟨by decide, by decide⟩, lim1 hc a6, lim2 hc a7⟩ rfl hl.1 rfl (by simp [rv_cat, cat_i, cat_l]) dX11_init_154 (fun G9 s10 H locs h hW hS hc => ?_)
      have t11 := h.1
      replace h := h.2
      refine x_putFR C hW hS (t := 11) (k := 10) t11 kl_11 (by decide) fl_X11_79 rfl hin rfl rfl (fun o => by cases o <;> rfl) (fun o => by cases o <;> rfl) dX11_init_157 (fun H locs hW hS => ?_)
      obtain ⟨s12, e_s12⟩ : ∃ z : Mem, z = sR s10 l0 10 (gN G + 1) := ⟨_, rfl⟩
      replace h := h s12 e_s12
      replace hW : Wd G9 D tc b0 s12 H := by rw [e_s12]; exact hW
      refine x_aload_n C hl dX11_init_160 rfl ?_
      refine lv_bipush (v := (60 : Int32)) hx hb dX11_init_161 (by decide) ?_
      have a13 := h.1
      have a14 := h.2.1
      replace h := h.2.2
      refine x_newa C hW hS hc (atype := .int) (ty := .int) rfl (gc1 61 rfl rfl) (code := 100) (t0 := 0) (n := 60) (by decide) rfl (fun _ h => h) (by decide) (by decide) (by decide) (fun cA => con_zi (by decide) cA) (lim1 hc a13) (lim2 hc a14) dX11_init_163 (fun H hW hS hc => ?_)
      obtain ⟨G15, e_G15⟩ : ∃ z : Lay, z = gA G9 100 60 60 := ⟨_, rfl⟩
      obtain ⟨s16, e_s16⟩ : ∃ z : Mem, z = sZ s12 (gN G9 + 1) := ⟨_, rfl⟩
      replace h := h G15 e_G15 s16 e_s16
      replace hW : Wd G15 D tc b0 s16 H := by rw [e_G15, e_s16]; exact hW
      rw [← e_G15] at hc
      have t17 := h.1
      replace h := h.2
      refine x_putFR C hW hS (t := 11) (k := 11) t17 kl_11 (by decide) fl_X11_83 rfl hin rfl rfl (fun o => by cases o <;> rfl) (fun o => by cases o <;> rfl) dX11_init_165 (fun H locs hW hS => ?_)
      obtain ⟨s18, e_s18⟩ : ∃ z : Mem, z = sR s16 l0 11 (gN G9 + 1) := ⟨_, rfl⟩
      replace h := h s18 e_s18
      replace hW : Wd G15 D tc b0 s18 H := by rw [e_s18]; exact hW
      exact r_c C hr hW hS hc h.1 h.2.1 h.2.2 dX11_init_168
    · replace h := h.2 hc0
      refine x_aload_n C hl dX11_init_121 rfl ?_
      have t19 := h.1
      replace h := h.2
      refine x_get C hW (t := 11) (k := 9) t19 kl_11 (by decide) fl_X11_67 (v := rv b0 (mR σ l0 9)) rfl dX11_init_122 ?_
      refine x_iload_n C hl dX11_init_125 rfl ?_
      have a20 := h.1
      have a21 := h.2.1
      replace h := h.2.2
      refine x_new C hW hS hc (t := 9) kl_9 (by decide) (gc2 87 rfl rfl) (gc2 89 rfl rfl) (gc1 10 rfl rfl) (lim1 hc a20) (lim2 hc a21) dX11_init_126 (fun H hW hS hc => ?_)
      obtain ⟨G22, e_G22⟩ : ∃ z : Lay, z = gA G 10 0 8 := ⟨_, rfl⟩
      obtain ⟨s23, e_s23⟩ : ∃ z : Mem, z = sZ σ (gN G + 1) := ⟨_, rfl⟩
      replace h := h G22 e_G22 s23 e_s23
      replace hW : Wd G22 D tc b0 s23 H := by rw [e_G22, e_s23]; exact hW
      rw [← e_G22] at hc
      refine lv_dup hx hb dX11_init_129 (rv_cat _ _) ?_
      refine x_iload_n C hl dX11_init_130 rfl ?_
      refine x_aload_n C hl dX11_init_131 rfl ?_
      have t24 := h.1
      replace h := h.2
      refine x_get C hW (t := 11) (k := 6) t24 kl_11 (by decide) fl_X11_53 (v := rv b0 (mR s23 l0 6)) rfl dX11_init_132 ?_
      have a25 := h.1
      have a26 := h.2.1
      replace h := h.2.2
      have t27 := h.1
      replace h := h.2
      refine x_ctor (As := [.int l1, rv b0 (mR s23 l0 6)]) C hW hS hc hN (T_X9_init l (gN G + 1) l1 (mR s23 l0 6) G22 s23 _ h) t27 yi_X9_init (Or.inl (gc2 90 rfl rfl)) ⟨rfl, rfl, ⟨by decide, by decide⟩, lim1 hc a25, lim2 hc a26⟩ rfl hl.1 rfl (by simp [rv_cat, cat_i, cat_l]) dX11_init_135 (fun G28 s29 H locs h hW hS hc => ?_)
      have t30 := h.1
      replace h := h.2
      have v31 := h.1
      replace h := h.2
      have t32 := h.1
      replace h := h.2
      refine x_aast C hW hS (t := 106) (t0 := 7) (tv := 9) t30 (by decide) rfl t32 kl_9 v31 dX11_init_138 (fun H locs hW hS => ?_)
      obtain ⟨s33, e_s33⟩ : ∃ z : Mem, z = sR s29 (mR σ l0 9) l1.toNatClampNeg (gN G + 1) := ⟨_, rfl⟩
      replace h := h s33 e_s33
      replace hW : Wd G28 D tc b0 s33 H := by rw [e_s33]; exact hW
      refine x_iinc C hl dX11_init_139 rfl (v := (1 : Int32)) (by decide) (by decide) rfl (fun ls hl => ?_)
      refine lv_goto hx hb dX11_init_142 (tgt := 116) rfl ?_
      exact hK116 _ _ _ _ _ _ _ _ hS hW (hl.keep [true, true] rfl) hc h
theorem t_X11_init_116 {p : Program} {l : Launch} {e : Env} {s : State} {m : MethodId} {args : Array Value} {below : List Frame} {meth : Method} {c : Code} {D : va_G} {tc : Nat → ClassId} {b0 : Nat} {G0 : Lay} {Qx : Lay → Mem → Prop} {H : Heap} {locs : List Loc} {ls : Array Slot} {cells slots : Nat} {G : Lay} {σ : Mem} {l0 : Nat} {l1 : Int32} (C : Cx p s m args meth c cX11_init RX11 2 D tc b0) (hr : meth.sig.returnType = none) (hin : meth.name = "<init>") (hN : Nx s) (hS : va_S (AA b0) s.heap H locs) (hW : Wd G D tc b0 σ H) (hl : hL b0 ls 2 [some (.inr (.inr l0)), some (.inl l1)]) (hc : Ct s b0 (gN G0) (gZ G0) cells slots G) (h : X_X11_init_116 Qx G0 l0 l1 G σ) : W p l e rm_X11_init s m args below meth c H locs cells slots (MQ below (va_Qv (S := Lay × Mem) (fun u => Qx u.1 u.2 ∧ gN u.1 = gN G0 + 1280 ∧ gZ u.1 = gZ G0 + 66429) (fun u t => Pw u.1 D tc b0 u.2 t) (AA b0)) args s 1280 66429 (AA b0)) (F0 m 116 ls []) := by
  obtain ⟨n, h⟩ := h
  exact t_X11_init_116_n C hr hin hN n l1 G σ H locs ls cells slots hS hW hl hc h
set_option maxRecDepth 20000 in
set_option maxHeartbeats 4000000 in
theorem t_X11_init_0 {p : Program} {l : Launch} {e : Env} {s : State} {m : MethodId} {args : Array Value} {below : List Frame} {meth : Method} {c : Code} {D : va_G} {tc : Nat → ClassId} {b0 : Nat} {G0 : Lay} {Qx : Lay → Mem → Prop} {H : Heap} {locs : List Loc} {ls : Array Slot} {cells slots : Nat} {G : Lay} {σ : Mem} {l0 : Nat} (C : Cx p s m args meth c cX11_init RX11 2 D tc b0) (hr : meth.sig.returnType = none) (hin : meth.name = "<init>") (hN : Nx s) (hS : va_S (AA b0) s.heap H locs) (hW : Wd G D tc b0 σ H) (hl : hL b0 ls 2 [some (.inr (.inr l0)), none]) (hc : Ct s b0 (gN G0) (gZ G0) cells slots G) (h : X_X11_init_0 Qx G0 l0 G σ) : W p l e rm_X11_init s m args below meth c H locs cells slots (MQ below (va_Qv (S := Lay × Mem) (fun u => Qx u.1 u.2 ∧ gN u.1 = gN G0 + 1280 ∧ gZ u.1 = gZ G0 + 66429) (fun u t => Pw u.1 D tc b0 u.2 t) (AA b0)) args s 1280 66429 (AA b0)) (F0 m 0 ls []) := by
  have hx := C.1
  have hb := C.2.1
  unfold X_X11_init_0 at h
  refine x_aload_n C hl dX11_init_0 rfl ?_
  have t1 := h.1
  replace h := h.2
  refine x_obj C hW hl.1 (t := 11) t1 (gc1 27 rfl rfl) (gc1 28 rfl rfl) (gc1 29 rfl rfl) dX11_init_1 ⟨by decide, by decide⟩ ?_
  refine x_aload_n C hl dX11_init_4 rfl ?_
  refine lv_sipush (v := (3000 : Int32)) hx hb dX11_init_5 (by decide) ?_
  have a2 := h.1
  have a3 := h.2.1
  replace h := h.2.2
  refine x_newa C hW hS hc (atype := .byte) (ty := .byte) rfl (gc1 60 rfl rfl) (code := 101) (t0 := 1) (n := 3000) (by decide) rfl (fun _ h => h) (by decide) (by decide) (by decide) (fun cA => con_zi (by decide) cA) (lim1 hc a2) (lim2 hc a3) dX11_init_8 (fun H hW hS hc => ?_)
  obtain ⟨G4, e_G4⟩ : ∃ z : Lay, z = gA G 101 3000 3000 := ⟨_, rfl⟩
  obtain ⟨s5, e_s5⟩ : ∃ z : Mem, z = sZ σ (gN G + 1) := ⟨_, rfl⟩
  replace h := h G4 e_G4 s5 e_s5
  replace hW : Wd G4 D tc b0 s5 H := by rw [e_G4, e_s5]; exact hW
  rw [← e_G4] at hc
  have t6 := h.1
  replace h := h.2
  refine x_putFR C hW hS (t := 11) (k := 0) t6 kl_11 (by decide) fl_X11_9 rfl hin rfl rfl (fun o => by cases o <;> rfl) (fun o => by cases o <;> rfl) dX11_init_10 (fun H locs hW hS => ?_)
  obtain ⟨s7, e_s7⟩ : ∃ z : Mem, z = sR s5 l0 0 (gN G + 1) := ⟨_, rfl⟩
  replace h := h s7 e_s7
  replace hW : Wd G4 D tc b0 s7 H := by rw [e_s7]; exact hW
  refine x_aload_n C hl dX11_init_13 rfl ?_
  have a8 := h.1
  have a9 := h.2.1
  replace h := h.2.2
  refine x_new C hW hS hc (t := 8) kl_8 (by decide) (gc1 30 rfl rfl) (gc1 31 rfl rfl) (gc1 2 rfl rfl) (lim1 hc a8) (lim2 hc a9) dX11_init_14 (fun H hW hS hc => ?_)
  obtain ⟨G10, e_G10⟩ : ∃ z : Lay, z = gA G4 9 0 7 := ⟨_, rfl⟩
  obtain ⟨s11, e_s11⟩ : ∃ z : Mem, z = sZ s7 (gN G4 + 1) := ⟨_, rfl⟩
  replace h := h G10 e_G10 s11 e_s11
  replace hW : Wd G10 D tc b0 s11 H := by rw [e_G10, e_s11]; exact hW
  rw [← e_G10] at hc
  refine lv_dup hx hb dX11_init_17 (rv_cat _ _) ?_
  have a12 := h.1
  have a13 := h.2.1
  replace h := h.2.2
  have t14 := h.1
  replace h := h.2
  refine x_ctor (As := []) C hW hS hc hN (T_X8_init l (gN G4 + 1) G10 s11 _ h) t14 yi_X8_init (Or.inr ⟨_, hN.1⟩) ⟨rfl, rfl, ⟨by decide, by decide⟩, lim1 hc a12, lim2 hc a13⟩ rfl hl.1 rfl (by simp [rv_cat, cat_i, cat_l]) dX11_init_18 (fun G15 s16 H locs h hW hS hc => ?_)
  have t17 := h.1
  replace h := h.2
  refine x_putFR C hW hS (t := 11) (k := 2) t17 kl_11 (by decide) fl_X11_16 rfl hin rfl rfl (fun o => by cases o <;> rfl) (fun o => by cases o <;> rfl) dX11_init_21 (fun H locs hW hS => ?_)
  obtain ⟨s18, e_s18⟩ : ∃ z : Mem, z = sR s16 l0 2 (gN G4 + 1) := ⟨_, rfl⟩
  replace h := h s18 e_s18
  replace hW : Wd G15 D tc b0 s18 H := by rw [e_s18]; exact hW
  refine x_aload_n C hl dX11_init_24 rfl ?_
  have a19 := h.1
  have a20 := h.2.1
  replace h := h.2.2
  refine x_new C hW hS hc (t := 0) kl_0 (by decide) (gc1 63 rfl rfl) (gc1 64 rfl rfl) (gc1 3 rfl rfl) (lim1 hc a19) (lim2 hc a20) dX11_init_25 (fun H hW hS hc => ?_)
  obtain ⟨G21, e_G21⟩ : ∃ z : Lay, z = gA G15 1 0 3 := ⟨_, rfl⟩
  obtain ⟨s22, e_s22⟩ : ∃ z : Mem, z = sZ s18 (gN G15 + 1) := ⟨_, rfl⟩
  replace h := h G21 e_G21 s22 e_s22
  replace hW : Wd G21 D tc b0 s22 H := by rw [e_G21, e_s22]; exact hW
  rw [← e_G21] at hc
  refine lv_dup hx hb dX11_init_28 (rv_cat _ _) ?_
  refine x_aload_n C hl dX11_init_29 rfl ?_
  have t23 := h.1
  replace h := h.2
  refine x_get C hW (t := 11) (k := 2) t23 kl_11 (by decide) fl_X11_16 (v := rv b0 (mR s22 l0 2)) rfl dX11_init_30 ?_
  have a24 := h.1
  have a25 := h.2.1
  replace h := h.2.2
  have t26 := h.1
  replace h := h.2
  refine x_ctor (As := [rv b0 (mR s22 l0 2)]) C hW hS hc hN (T_X0_init l (gN G15 + 1) (mR s22 l0 2) G21 s22 _ h) t26 yi_X0_init (Or.inl (gc1 65 rfl rfl)) ⟨rfl, rfl, ⟨by decide, by decide⟩, lim1 hc a24, lim2 hc a25⟩ rfl hl.1 rfl (by simp [rv_cat, cat_i, cat_l]) dX11_init_33 (fun G27 s28 H locs h hW hS hc => ?_)
  have t29 := h.1
  replace h := h.2
  refine x_putFR C hW hS (t := 11) (k := 3) t29 kl_11 (by decide) fl_X11_25 rfl hin rfl rfl (fun o => by cases o <;> rfl) (fun o => by cases o <;> rfl) dX11_init_36 (fun H locs hW hS => ?_)
  obtain ⟨s30, e_s30⟩ : ∃ z : Mem, z = sR s28 l0 3 (gN G15 + 1) := ⟨_, rfl⟩
  replace h := h s30 e_s30
  replace hW : Wd G27 D tc b0 s30 H := by rw [e_s30]; exact hW
  refine x_aload_n C hl dX11_init_39 rfl ?_
  have a31 := h.1
  have a32 := h.2.1
  replace h := h.2.2
  refine x_new C hW hS hc (t := 3) kl_3 (by decide) (gc1 79 rfl rfl) (gc1 80 rfl rfl) (gc1 4 rfl rfl) (lim1 hc a31) (lim2 hc a32) dX11_init_40 (fun H hW hS hc => ?_)
  obtain ⟨G33, e_G33⟩ : ∃ z : Lay, z = gA G27 4 0 4 := ⟨_, rfl⟩
  obtain ⟨s34, e_s34⟩ : ∃ z : Mem, z = sZ s30 (gN G27 + 1) := ⟨_, rfl⟩
  replace h := h G33 e_G33 s34 e_s34
  replace hW : Wd G33 D tc b0 s34 H := by rw [e_G33, e_s34]; exact hW
  rw [← e_G33] at hc
  refine lv_dup hx hb dX11_init_43 (rv_cat _ _) ?_
  have a35 := h.1
  have a36 := h.2.1
  replace h := h.2.2
  have t37 := h.1
  replace h := h.2
  refine x_ctor (As := []) C hW hS hc hN (T_X3_init l (gN G27 + 1) G33 s34 _ h) t37 yi_X3_init (Or.inr ⟨_, hN.2.1⟩) ⟨rfl, rfl, ⟨by decide, by decide⟩, lim1 hc a35, lim2 hc a36⟩ rfl hl.1 rfl (by simp [rv_cat, cat_i, cat_l]) dX11_init_44 (fun G38 s39 H locs h hW hS hc => ?_)
  have t40 := h.1
  replace h := h.2
  refine x_putFR C hW hS (t := 11) (k := 5) t40 kl_11 (by decide) fl_X11_32 rfl hin rfl rfl (fun o => by cases o <;> rfl) (fun o => by cases o <;> rfl) dX11_init_47 (fun H locs hW hS => ?_)
  obtain ⟨s41, e_s41⟩ : ∃ z : Mem, z = sR s39 l0 5 (gN G27 + 1) := ⟨_, rfl⟩
  replace h := h s41 e_s41
  replace hW : Wd G38 D tc b0 s41 H := by rw [e_s41]; exact hW
  refine x_aload_n C hl dX11_init_50 rfl ?_
  have a42 := h.1
  have a43 := h.2.1
  replace h := h.2.2
  refine x_new C hW hS hc (t := 4) kl_4 (by decide) (gc1 101 rfl rfl) (gc1 102 rfl rfl) (gc1 5 rfl rfl) (lim1 hc a42) (lim2 hc a43) dX11_init_51 (fun H hW hS hc => ?_)
  obtain ⟨G44, e_G44⟩ : ∃ z : Lay, z = gA G38 5 0 6 := ⟨_, rfl⟩
  obtain ⟨s45, e_s45⟩ : ∃ z : Mem, z = sZ s41 (gN G38 + 1) := ⟨_, rfl⟩
  replace h := h G44 e_G44 s45 e_s45
  replace hW : Wd G44 D tc b0 s45 H := by rw [e_G44, e_s45]; exact hW
  rw [← e_G44] at hc
  refine lv_dup hx hb dX11_init_54 (rv_cat _ _) ?_
  refine x_aload_n C hl dX11_init_55 rfl ?_
  have t46 := h.1
  replace h := h.2
  refine x_get C hW (t := 11) (k := 2) t46 kl_11 (by decide) fl_X11_16 (v := rv b0 (mR s45 l0 2)) rfl dX11_init_56 ?_
  refine x_aload_n C hl dX11_init_59 rfl ?_
  refine x_get C hW (t := 11) (k := 5) t46 kl_11 (by decide) fl_X11_32 (v := rv b0 (mR s45 l0 5)) rfl dX11_init_60 ?_
  have a47 := h.1
  have a48 := h.2.1
  replace h := h.2.2
  have t49 := h.1
  replace h := h.2
  refine x_ctor (As := [rv b0 (mR s45 l0 2), rv b0 (mR s45 l0 5)]) C hW hS hc hN (T_X4_init l (gN G38 + 1) (mR s45 l0 2) (mR s45 l0 5) G44 s45 _ h) t49 yi_X4_init (Or.inl (gc1 103 rfl rfl)) ⟨rfl, rfl, ⟨by decide, by decide⟩, lim1 hc a47, lim2 hc a48⟩ rfl hl.1 rfl (by simp [rv_cat, cat_i, cat_l]) dX11_init_63 (fun G50 s51 H locs h hW hS hc => ?_)
  have t52 := h.1
  replace h := h.2
  refine x_putFR C hW hS (t := 11) (k := 4) t52 kl_11 (by decide) fl_X11_41 rfl hin rfl rfl (fun o => by cases o <;> rfl) (fun o => by cases o <;> rfl) dX11_init_66 (fun H locs hW hS => ?_)
  obtain ⟨s53, e_s53⟩ : ∃ z : Mem, z = sR s51 l0 4 (gN G38 + 1) := ⟨_, rfl⟩
  replace h := h s53 e_s53
  replace hW : Wd G50 D tc b0 s53 H := by rw [e_s53]; exact hW
  refine x_aload_n C hl dX11_init_69 rfl ?_
  have a54 := h.1
  have a55 := h.2.1
  replace h := h.2.2
  refine x_new C hW hS hc (t := 5) kl_5 (by decide) (gc1 126 rfl rfl) (gc1 127 rfl rfl) (gc1 6 rfl rfl) (lim1 hc a54) (lim2 hc a55) dX11_init_70 (fun H hW hS hc => ?_)
  obtain ⟨G56, e_G56⟩ : ∃ z : Lay, z = gA G50 6 0 6 := ⟨_, rfl⟩
  obtain ⟨s57, e_s57⟩ : ∃ z : Mem, z = sZ s53 (gN G50 + 1) := ⟨_, rfl⟩
  replace h := h G56 e_G56 s57 e_s57
  replace hW : Wd G56 D tc b0 s57 H := by rw [e_G56, e_s57]; exact hW
  rw [← e_G56] at hc
  refine lv_dup hx hb dX11_init_73 (rv_cat _ _) ?_
  have a58 := h.1
  have a59 := h.2.1
  replace h := h.2.2
  refine x_new C hW hS hc (t := 6) kl_6 (by decide) (gc1 128 rfl rfl) (gc1 129 rfl rfl) (gc1 7 rfl rfl) (lim1 hc a58) (lim2 hc a59) dX11_init_74 (fun H hW hS hc => ?_)
  obtain ⟨G60, e_G60⟩ : ∃ z : Lay, z = gA G56 7 0 6 := ⟨_, rfl⟩
  obtain ⟨s61, e_s61⟩ : ∃ z : Mem, z = sZ s57 (gN G56 + 1) := ⟨_, rfl⟩
  replace h := h G60 e_G60 s61 e_s61
  replace hW : Wd G60 D tc b0 s61 H := by rw [e_G60, e_s61]; exact hW
  rw [← e_G60] at hc
  refine lv_dup hx hb dX11_init_77 (rv_cat _ _) ?_
  have a62 := h.1
  have a63 := h.2.1
  replace h := h.2.2
  have t64 := h.1
  replace h := h.2
  refine x_ctor (As := []) C hW hS hc hN (T_X6_init l (gN G56 + 1) G60 s61 _ h) t64 yi_X6_init (Or.inl (gc1 130 rfl rfl)) ⟨rfl, rfl, ⟨by decide, by decide⟩, lim1 hc a62, lim2 hc a63⟩ rfl hl.1 rfl (by simp [rv_cat, cat_i, cat_l]) dX11_init_78 (fun G65 s66 H locs h hW hS hc => ?_)
  have a67 := h.1
  have a68 := h.2.1
  replace h := h.2.2
  have t69 := h.1
  replace h := h.2
  refine x_ctor (As := [rv b0 (gN G56 + 1)]) C hW hS hc hN (T_X5_init l (gN G50 + 1) (gN G56 + 1) G65 s66 _ h) t69 yi_X5_init (Or.inl (gc2 54 rfl rfl)) ⟨rfl, rfl, ⟨by decide, by decide⟩, lim1 hc a67, lim2 hc a68⟩ rfl hl.1 rfl (by simp [rv_cat, cat_i, cat_l]) dX11_init_81 (fun G70 s71 H locs h hW hS hc => ?_)
  have t72 := h.1
  replace h := h.2
  refine x_putFR C hW hS (t := 11) (k := 6) t72 kl_11 (by decide) fl_X11_53 rfl hin rfl rfl (fun o => by cases o <;> rfl) (fun o => by cases o <;> rfl) dX11_init_84 (fun H locs hW hS => ?_)
  obtain ⟨s73, e_s73⟩ : ∃ z : Mem, z = sR s71 l0 6 (gN G50 + 1) := ⟨_, rfl⟩
  replace h := h s73 e_s73
  replace hW : Wd G70 D tc b0 s73 H := by rw [e_s73]; exact hW
  refine x_aload_n C hl dX11_init_87 rfl ?_
  have a74 := h.1
  have a75 := h.2.1
  replace h := h.2.2
  refine x_new C hW hS hc (t := 6) kl_6 (by decide) (gc1 128 rfl rfl) (gc1 129 rfl rfl) (gc1 7 rfl rfl) (lim1 hc a74) (lim2 hc a75) dX11_init_88 (fun H hW hS hc => ?_)
  obtain ⟨G76, e_G76⟩ : ∃ z : Lay, z = gA G70 7 0 6 := ⟨_, rfl⟩
  obtain ⟨s77, e_s77⟩ : ∃ z : Mem, z = sZ s73 (gN G70 + 1) := ⟨_, rfl⟩
  replace h := h G76 e_G76 s77 e_s77
  replace hW : Wd G76 D tc b0 s77 H := by rw [e_G76, e_s77]; exact hW
  rw [← e_G76] at hc
  refine lv_dup hx hb dX11_init_91 (rv_cat _ _) ?_
  have a78 := h.1
  have a79 := h.2.1
  replace h := h.2.2
  have t80 := h.1
  replace h := h.2
  refine x_ctor (As := []) C hW hS hc hN (T_X6_init l (gN G70 + 1) G76 s77 _ h) t80 yi_X6_init (Or.inl (gc1 130 rfl rfl)) ⟨rfl, rfl, ⟨by decide, by decide⟩, lim1 hc a78, lim2 hc a79⟩ rfl hl.1 rfl (by simp [rv_cat, cat_i, cat_l]) dX11_init_92 (fun G81 s82 H locs h hW hS hc => ?_)
  have t83 := h.1
  replace h := h.2
  refine x_putR C hW hS (t := 11) (k := 7) t83 kl_11 (by decide) fl_X11_57 rfl rfl (fun o => by cases o <;> rfl) (fun o => by cases o <;> rfl) dX11_init_95 (fun H locs hW hS => ?_)
  obtain ⟨s84, e_s84⟩ : ∃ z : Mem, z = sR s82 l0 7 (gN G70 + 1) := ⟨_, rfl⟩
  replace h := h s84 e_s84
  replace hW : Wd G81 D tc b0 s84 H := by rw [e_s84]; exact hW
  refine x_aload_n C hl dX11_init_98 rfl ?_
  refine lv_bipush (v := (12 : Int32)) hx hb dX11_init_99 (by decide) ?_
  have a85 := h.1
  have a86 := h.2.1
  replace h := h.2.2
  refine x_newa C hW hS hc (atype := .int) (ty := .int) rfl (gc1 61 rfl rfl) (code := 100) (t0 := 0) (n := 12) (by decide) rfl (fun _ h => h) (by decide) (by decide) (by decide) (fun cA => con_zi (by decide) cA) (lim1 hc a85) (lim2 hc a86) dX11_init_101 (fun H hW hS hc => ?_)
  obtain ⟨G87, e_G87⟩ : ∃ z : Lay, z = gA G81 100 12 12 := ⟨_, rfl⟩
  obtain ⟨s88, e_s88⟩ : ∃ z : Mem, z = sZ s84 (gN G81 + 1) := ⟨_, rfl⟩
  replace h := h G87 e_G87 s88 e_s88
  replace hW : Wd G87 D tc b0 s88 H := by rw [e_G87, e_s88]; exact hW
  rw [← e_G87] at hc
  have t89 := h.1
  replace h := h.2
  refine x_putFR C hW hS (t := 11) (k := 8) t89 kl_11 (by decide) fl_X11_61 rfl hin rfl rfl (fun o => by cases o <;> rfl) (fun o => by cases o <;> rfl) dX11_init_103 (fun H locs hW hS => ?_)
  obtain ⟨s90, e_s90⟩ : ∃ z : Mem, z = sR s88 l0 8 (gN G81 + 1) := ⟨_, rfl⟩
  replace h := h s90 e_s90
  replace hW : Wd G87 D tc b0 s90 H := by rw [e_s90]; exact hW
  refine x_aload_n C hl dX11_init_106 rfl ?_
  refine lv_iconst (v := (4 : Int32)) hx hb dX11_init_107 (by decide) ?_
  have a91 := h.1
  have a92 := h.2.1
  replace h := h.2.2
  refine x_newq C hW hS hc (gc2 87 rfl rfl) hN.2.2.2.2.2.2.2 (code := 107) (t0 := 7) (n := 4) (by decide) rfl (by decide) (by decide) (by decide) (lim1 hc a91) (lim2 hc a92) dX11_init_108 (fun H hW hS hc => ?_)
  obtain ⟨G93, e_G93⟩ : ∃ z : Lay, z = gA G87 107 4 4 := ⟨_, rfl⟩
  obtain ⟨s94, e_s94⟩ : ∃ z : Mem, z = sZ s90 (gN G87 + 1) := ⟨_, rfl⟩
  replace h := h G93 e_G93 s94 e_s94
  replace hW : Wd G93 D tc b0 s94 H := by rw [e_G93, e_s94]; exact hW
  rw [← e_G93] at hc
  have t95 := h.1
  replace h := h.2
  refine x_putFR C hW hS (t := 11) (k := 9) t95 kl_11 (by decide) fl_X11_67 rfl hin rfl rfl (fun o => by cases o <;> rfl) (fun o => by cases o <;> rfl) dX11_init_111 (fun H locs hW hS => ?_)
  obtain ⟨s96, e_s96⟩ : ∃ z : Mem, z = sR s94 l0 9 (gN G87 + 1) := ⟨_, rfl⟩
  replace h := h s96 e_s96
  replace hW : Wd G93 D tc b0 s96 H := by rw [e_s96]; exact hW
  refine lv_iconst (v := (0 : Int32)) hx hb dX11_init_114 (by decide) ?_
  refine x_istore_n C hl dX11_init_115 (by decide) rfl (fun ls hl => ?_)
  exact t_X11_init_116 C hr hin hN hS hW (hl.keep [true, true] rfl) hc h
theorem T_X11_init (l : Launch) {D : va_G} {tc : Nat → ClassId} {b0 : Nat} (l0 : Nat) (G : Lay) (σ : Mem) (Qx : Lay → Mem → Prop) (h : X_X11_init Qx l0 G σ) : MC l yX11_init cX11_init 2 rm_X11_init G D tc b0 [rv b0 l0] σ 1280 66429 Qx :=
  x_entryC (y := yX11_init) [.inr (.inr l0)] 1 (by decide) (Nat.le_of_ble_eq_true rfl) rfl (fun p e s m args below meth c ls C hr hin hN hW hc hl => t_X11_init_0 C hr hin hN va_S.rf hW hl hc h)
/-! X12_init -/
set_option maxRecDepth 20000 in
set_option maxHeartbeats 4000000 in
theorem t_X12_init_0 {p : Program} {l : Launch} {e : Env} {s : State} {m : MethodId} {args : Array Value} {below : List Frame} {meth : Method} {c : Code} {D : va_G} {tc : Nat → ClassId} {b0 : Nat} {G0 : Lay} {Qx : Lay → Mem → Prop} {H : Heap} {locs : List Loc} {ls : Array Slot} {cells slots : Nat} {G : Lay} {σ : Mem} {l0 : Nat} (C : Cx p s m args meth c cX12_init RX12 1 D tc b0) (hr : meth.sig.returnType = none) (hin : meth.name = "<init>") (hN : Nx s) (hS : va_S (AA b0) s.heap H locs) (hW : Wd G D tc b0 σ H) (hl : hL b0 ls 1 [some (.inr (.inr l0))]) (hc : Ct s b0 (gN G0) (gZ G0) cells slots G) (h : X_X12_init_0 Qx G0 l0 G σ) : W p l e rm_X12_init s m args below meth c H locs cells slots (MQ below (va_Qv (S := Lay × Mem) (fun u => Qx u.1 u.2 ∧ gN u.1 = gN G0 + 65 ∧ gZ u.1 = gZ G0 + 80578) (fun u t => Pw u.1 D tc b0 u.2 t) (AA b0)) args s 65 80578 (AA b0)) (F0 m 0 ls []) := by
  have hx := C.1
  have hb := C.2.1
  unfold X_X12_init_0 at h
  refine x_aload_n C hl dX12_init_0 rfl ?_
  have t1 := h.1
  replace h := h.2
  refine x_obj C hW hl.1 (t := 12) t1 (gc6 235 rfl rfl) (gc1 28 rfl rfl) (gc1 29 rfl rfl) dX12_init_1 ⟨by decide, by decide⟩ ?_
  refine x_aload_n C hl dX12_init_4 rfl ?_
  refine lv_sipush (v := (3000 : Int32)) hx hb dX12_init_5 (by decide) ?_
  have a2 := h.1
  have a3 := h.2.1
  replace h := h.2.2
  refine x_newa C hW hS hc (atype := .int) (ty := .int) rfl (gc1 61 rfl rfl) (code := 100) (t0 := 0) (n := 3000) (by decide) rfl (fun _ h => h) (by decide) (by decide) (by decide) (fun cA => con_zi (by decide) cA) (lim1 hc a2) (lim2 hc a3) dX12_init_8 (fun H hW hS hc => ?_)
  obtain ⟨G4, e_G4⟩ : ∃ z : Lay, z = gA G 100 3000 3000 := ⟨_, rfl⟩
  obtain ⟨s5, e_s5⟩ : ∃ z : Mem, z = sZ σ (gN G + 1) := ⟨_, rfl⟩
  replace h := h G4 e_G4 s5 e_s5
  replace hW : Wd G4 D tc b0 s5 H := by rw [e_G4, e_s5]; exact hW
  rw [← e_G4] at hc
  have t6 := h.1
  replace h := h.2
  refine x_putFR C hW hS (t := 12) (k := 0) t6 kl_12 (by decide) fl_X12_7 rfl hin rfl rfl (fun o => by cases o <;> rfl) (fun o => by cases o <;> rfl) dX12_init_10 (fun H locs hW hS => ?_)
  obtain ⟨s7, e_s7⟩ : ∃ z : Mem, z = sR s5 l0 0 (gN G + 1) := ⟨_, rfl⟩
  replace h := h s7 e_s7
  replace hW : Wd G4 D tc b0 s7 H := by rw [e_s7]; exact hW
  refine x_aload_n C hl dX12_init_13 rfl ?_
  refine lv_bipush (v := (26 : Int32)) hx hb dX12_init_14 (by decide) ?_
  have a8 := h.1
  have a9 := h.2.1
  replace h := h.2.2
  refine x_newa C hW hS hc (atype := .long) (ty := .long) rfl (gc1 62 rfl rfl) (code := 103) (t0 := 3) (n := 26) (by decide) rfl (fun _ h => h) (by decide) (by decide) (by decide) (fun cA => con_zl cA) (lim1 hc a8) (lim2 hc a9) dX12_init_16 (fun H hW hS hc => ?_)
  obtain ⟨G10, e_G10⟩ : ∃ z : Lay, z = gA G4 103 26 26 := ⟨_, rfl⟩
  obtain ⟨s11, e_s11⟩ : ∃ z : Mem, z = sZ s7 (gN G4 + 1) := ⟨_, rfl⟩
  replace h := h G10 e_G10 s11 e_s11
  replace hW : Wd G10 D tc b0 s11 H := by rw [e_G10, e_s11]; exact hW
  rw [← e_G10] at hc
  have t12 := h.1
  replace h := h.2
  refine x_putFR C hW hS (t := 12) (k := 3) t12 kl_12 (by decide) fl_X12_13 rfl hin rfl rfl (fun o => by cases o <;> rfl) (fun o => by cases o <;> rfl) dX12_init_18 (fun H locs hW hS => ?_)
  obtain ⟨s13, e_s13⟩ : ∃ z : Mem, z = sR s11 l0 3 (gN G4 + 1) := ⟨_, rfl⟩
  replace h := h s13 e_s13
  replace hW : Wd G10 D tc b0 s13 H := by rw [e_s13]; exact hW
  refine x_aload_n C hl dX12_init_21 rfl ?_
  refine lv_bipush (v := (26 : Int32)) hx hb dX12_init_22 (by decide) ?_
  have a14 := h.1
  have a15 := h.2.1
  replace h := h.2.2
  refine x_newa C hW hS hc (atype := .int) (ty := .int) rfl (gc1 61 rfl rfl) (code := 100) (t0 := 0) (n := 26) (by decide) rfl (fun _ h => h) (by decide) (by decide) (by decide) (fun cA => con_zi (by decide) cA) (lim1 hc a14) (lim2 hc a15) dX12_init_24 (fun H hW hS hc => ?_)
  obtain ⟨G16, e_G16⟩ : ∃ z : Lay, z = gA G10 100 26 26 := ⟨_, rfl⟩
  obtain ⟨s17, e_s17⟩ : ∃ z : Mem, z = sZ s13 (gN G10 + 1) := ⟨_, rfl⟩
  replace h := h G16 e_G16 s17 e_s17
  replace hW : Wd G16 D tc b0 s17 H := by rw [e_G16, e_s17]; exact hW
  rw [← e_G16] at hc
  have t18 := h.1
  replace h := h.2
  refine x_putFR C hW hS (t := 12) (k := 4) t18 kl_12 (by decide) fl_X12_17 rfl hin rfl rfl (fun o => by cases o <;> rfl) (fun o => by cases o <;> rfl) dX12_init_26 (fun H locs hW hS => ?_)
  obtain ⟨s19, e_s19⟩ : ∃ z : Mem, z = sR s17 l0 4 (gN G10 + 1) := ⟨_, rfl⟩
  replace h := h s19 e_s19
  replace hW : Wd G16 D tc b0 s19 H := by rw [e_s19]; exact hW
  refine x_aload_n C hl dX12_init_29 rfl ?_
  refine lv_bipush (v := (26 : Int32)) hx hb dX12_init_30 (by decide) ?_
  have a20 := h.1
  have a21 := h.2.1
  replace h := h.2.2
  refine x_newa C hW hS hc (atype := .int) (ty := .int) rfl (gc1 61 rfl rfl) (code := 100) (t0 := 0) (n := 26) (by decide) rfl (fun _ h => h) (by decide) (by decide) (by decide) (fun cA => con_zi (by decide) cA) (lim1 hc a20) (lim2 hc a21) dX12_init_32 (fun H hW hS hc => ?_)
  obtain ⟨G22, e_G22⟩ : ∃ z : Lay, z = gA G16 100 26 26 := ⟨_, rfl⟩
  obtain ⟨s23, e_s23⟩ : ∃ z : Mem, z = sZ s19 (gN G16 + 1) := ⟨_, rfl⟩
  replace h := h G22 e_G22 s23 e_s23
  replace hW : Wd G22 D tc b0 s23 H := by rw [e_G22, e_s23]; exact hW
  rw [← e_G22] at hc
  have t24 := h.1
  replace h := h.2
  refine x_putFR C hW hS (t := 12) (k := 5) t24 kl_12 (by decide) fl_X12_20 rfl hin rfl rfl (fun o => by cases o <;> rfl) (fun o => by cases o <;> rfl) dX12_init_34 (fun H locs hW hS => ?_)
  obtain ⟨s25, e_s25⟩ : ∃ z : Mem, z = sR s23 l0 5 (gN G16 + 1) := ⟨_, rfl⟩
  replace h := h s25 e_s25
  replace hW : Wd G22 D tc b0 s25 H := by rw [e_s25]; exact hW
  refine x_aload_n C hl dX12_init_37 rfl ?_
  refine lv_bipush (v := (26 : Int32)) hx hb dX12_init_38 (by decide) ?_
  have a26 := h.1
  have a27 := h.2.1
  replace h := h.2.2
  refine x_newa C hW hS hc (atype := .int) (ty := .int) rfl (gc1 61 rfl rfl) (code := 100) (t0 := 0) (n := 26) (by decide) rfl (fun _ h => h) (by decide) (by decide) (by decide) (fun cA => con_zi (by decide) cA) (lim1 hc a26) (lim2 hc a27) dX12_init_40 (fun H hW hS hc => ?_)
  obtain ⟨G28, e_G28⟩ : ∃ z : Lay, z = gA G22 100 26 26 := ⟨_, rfl⟩
  obtain ⟨s29, e_s29⟩ : ∃ z : Mem, z = sZ s25 (gN G22 + 1) := ⟨_, rfl⟩
  replace h := h G28 e_G28 s29 e_s29
  replace hW : Wd G28 D tc b0 s29 H := by rw [e_G28, e_s29]; exact hW
  rw [← e_G28] at hc
  have t30 := h.1
  replace h := h.2
  refine x_putFR C hW hS (t := 12) (k := 6) t30 kl_12 (by decide) fl_X12_23 rfl hin rfl rfl (fun o => by cases o <;> rfl) (fun o => by cases o <;> rfl) dX12_init_42 (fun H locs hW hS => ?_)
  obtain ⟨s31, e_s31⟩ : ∃ z : Mem, z = sR s29 l0 6 (gN G22 + 1) := ⟨_, rfl⟩
  replace h := h s31 e_s31
  replace hW : Wd G28 D tc b0 s31 H := by rw [e_s31]; exact hW
  refine x_aload_n C hl dX12_init_45 rfl ?_
  refine lv_bipush (v := (26 : Int32)) hx hb dX12_init_46 (by decide) ?_
  have a32 := h.1
  have a33 := h.2.1
  replace h := h.2.2
  refine x_newa C hW hS hc (atype := .int) (ty := .int) rfl (gc1 61 rfl rfl) (code := 100) (t0 := 0) (n := 26) (by decide) rfl (fun _ h => h) (by decide) (by decide) (by decide) (fun cA => con_zi (by decide) cA) (lim1 hc a32) (lim2 hc a33) dX12_init_48 (fun H hW hS hc => ?_)
  obtain ⟨G34, e_G34⟩ : ∃ z : Lay, z = gA G28 100 26 26 := ⟨_, rfl⟩
  obtain ⟨s35, e_s35⟩ : ∃ z : Mem, z = sZ s31 (gN G28 + 1) := ⟨_, rfl⟩
  replace h := h G34 e_G34 s35 e_s35
  replace hW : Wd G34 D tc b0 s35 H := by rw [e_G34, e_s35]; exact hW
  rw [← e_G34] at hc
  have t36 := h.1
  replace h := h.2
  refine x_putFR C hW hS (t := 12) (k := 7) t36 kl_12 (by decide) fl_X12_26 rfl hin rfl rfl (fun o => by cases o <;> rfl) (fun o => by cases o <;> rfl) dX12_init_50 (fun H locs hW hS => ?_)
  obtain ⟨s37, e_s37⟩ : ∃ z : Mem, z = sR s35 l0 7 (gN G28 + 1) := ⟨_, rfl⟩
  replace h := h s37 e_s37
  replace hW : Wd G34 D tc b0 s37 H := by rw [e_s37]; exact hW
  refine x_aload_n C hl dX12_init_53 rfl ?_
  refine lv_sipush (v := (416 : Int32)) hx hb dX12_init_54 (by decide) ?_
  have a38 := h.1
  have a39 := h.2.1
  replace h := h.2.2
  refine x_newa C hW hS hc (atype := .long) (ty := .long) rfl (gc1 62 rfl rfl) (code := 103) (t0 := 3) (n := 416) (by decide) rfl (fun _ h => h) (by decide) (by decide) (by decide) (fun cA => con_zl cA) (lim1 hc a38) (lim2 hc a39) dX12_init_57 (fun H hW hS hc => ?_)
  obtain ⟨G40, e_G40⟩ : ∃ z : Lay, z = gA G34 103 416 416 := ⟨_, rfl⟩
  obtain ⟨s41, e_s41⟩ : ∃ z : Mem, z = sZ s37 (gN G34 + 1) := ⟨_, rfl⟩
  replace h := h G40 e_G40 s41 e_s41
  replace hW : Wd G40 D tc b0 s41 H := by rw [e_G40, e_s41]; exact hW
  rw [← e_G40] at hc
  have t42 := h.1
  replace h := h.2
  refine x_putFR C hW hS (t := 12) (k := 8) t42 kl_12 (by decide) fl_X12_29 rfl hin rfl rfl (fun o => by cases o <;> rfl) (fun o => by cases o <;> rfl) dX12_init_59 (fun H locs hW hS => ?_)
  obtain ⟨s43, e_s43⟩ : ∃ z : Mem, z = sR s41 l0 8 (gN G34 + 1) := ⟨_, rfl⟩
  replace h := h s43 e_s43
  replace hW : Wd G40 D tc b0 s43 H := by rw [e_s43]; exact hW
  refine x_aload_n C hl dX12_init_62 rfl ?_
  refine lv_sipush (v := (416 : Int32)) hx hb dX12_init_63 (by decide) ?_
  have a44 := h.1
  have a45 := h.2.1
  replace h := h.2.2
  refine x_newa C hW hS hc (atype := .int) (ty := .int) rfl (gc1 61 rfl rfl) (code := 100) (t0 := 0) (n := 416) (by decide) rfl (fun _ h => h) (by decide) (by decide) (by decide) (fun cA => con_zi (by decide) cA) (lim1 hc a44) (lim2 hc a45) dX12_init_66 (fun H hW hS hc => ?_)
  obtain ⟨G46, e_G46⟩ : ∃ z : Lay, z = gA G40 100 416 416 := ⟨_, rfl⟩
  obtain ⟨s47, e_s47⟩ : ∃ z : Mem, z = sZ s43 (gN G40 + 1) := ⟨_, rfl⟩
  replace h := h G46 e_G46 s47 e_s47
  replace hW : Wd G46 D tc b0 s47 H := by rw [e_G46, e_s47]; exact hW
  rw [← e_G46] at hc
  have t48 := h.1
  replace h := h.2
  refine x_putFR C hW hS (t := 12) (k := 9) t48 kl_12 (by decide) fl_X12_32 rfl hin rfl rfl (fun o => by cases o <;> rfl) (fun o => by cases o <;> rfl) dX12_init_68 (fun H locs hW hS => ?_)
  obtain ⟨s49, e_s49⟩ : ∃ z : Mem, z = sR s47 l0 9 (gN G40 + 1) := ⟨_, rfl⟩
  replace h := h s49 e_s49
  replace hW : Wd G46 D tc b0 s49 H := by rw [e_s49]; exact hW
  refine x_aload_n C hl dX12_init_71 rfl ?_
  refine lv_sipush (v := (416 : Int32)) hx hb dX12_init_72 (by decide) ?_
  have a50 := h.1
  have a51 := h.2.1
  replace h := h.2.2
  refine x_newa C hW hS hc (atype := .int) (ty := .int) rfl (gc1 61 rfl rfl) (code := 100) (t0 := 0) (n := 416) (by decide) rfl (fun _ h => h) (by decide) (by decide) (by decide) (fun cA => con_zi (by decide) cA) (lim1 hc a50) (lim2 hc a51) dX12_init_75 (fun H hW hS hc => ?_)
  obtain ⟨G52, e_G52⟩ : ∃ z : Lay, z = gA G46 100 416 416 := ⟨_, rfl⟩
  obtain ⟨s53, e_s53⟩ : ∃ z : Mem, z = sZ s49 (gN G46 + 1) := ⟨_, rfl⟩
  replace h := h G52 e_G52 s53 e_s53
  replace hW : Wd G52 D tc b0 s53 H := by rw [e_G52, e_s53]; exact hW
  rw [← e_G52] at hc
  have t54 := h.1
  replace h := h.2
  refine x_putFR C hW hS (t := 12) (k := 10) t54 kl_12 (by decide) fl_X12_35 rfl hin rfl rfl (fun o => by cases o <;> rfl) (fun o => by cases o <;> rfl) dX12_init_77 (fun H locs hW hS => ?_)
  obtain ⟨s55, e_s55⟩ : ∃ z : Mem, z = sR s53 l0 10 (gN G46 + 1) := ⟨_, rfl⟩
  replace h := h s55 e_s55
  replace hW : Wd G52 D tc b0 s55 H := by rw [e_s55]; exact hW
  refine x_aload_n C hl dX12_init_80 rfl ?_
  refine lv_sipush (v := (416 : Int32)) hx hb dX12_init_81 (by decide) ?_
  have a56 := h.1
  have a57 := h.2.1
  replace h := h.2.2
  refine x_newa C hW hS hc (atype := .int) (ty := .int) rfl (gc1 61 rfl rfl) (code := 100) (t0 := 0) (n := 416) (by decide) rfl (fun _ h => h) (by decide) (by decide) (by decide) (fun cA => con_zi (by decide) cA) (lim1 hc a56) (lim2 hc a57) dX12_init_84 (fun H hW hS hc => ?_)
  obtain ⟨G58, e_G58⟩ : ∃ z : Lay, z = gA G52 100 416 416 := ⟨_, rfl⟩
  obtain ⟨s59, e_s59⟩ : ∃ z : Mem, z = sZ s55 (gN G52 + 1) := ⟨_, rfl⟩
  replace h := h G58 e_G58 s59 e_s59
  replace hW : Wd G58 D tc b0 s59 H := by rw [e_G58, e_s59]; exact hW
  rw [← e_G58] at hc
  have t60 := h.1
  replace h := h.2
  refine x_putFR C hW hS (t := 12) (k := 11) t60 kl_12 (by decide) fl_X12_38 rfl hin rfl rfl (fun o => by cases o <;> rfl) (fun o => by cases o <;> rfl) dX12_init_86 (fun H locs hW hS => ?_)
  obtain ⟨s61, e_s61⟩ : ∃ z : Mem, z = sR s59 l0 11 (gN G52 + 1) := ⟨_, rfl⟩
  replace h := h s61 e_s61
  replace hW : Wd G58 D tc b0 s61 H := by rw [e_s61]; exact hW
  refine x_aload_n C hl dX12_init_89 rfl ?_
  refine lv_sipush (v := (416 : Int32)) hx hb dX12_init_90 (by decide) ?_
  have a62 := h.1
  have a63 := h.2.1
  replace h := h.2.2
  refine x_newa C hW hS hc (atype := .int) (ty := .int) rfl (gc1 61 rfl rfl) (code := 100) (t0 := 0) (n := 416) (by decide) rfl (fun _ h => h) (by decide) (by decide) (by decide) (fun cA => con_zi (by decide) cA) (lim1 hc a62) (lim2 hc a63) dX12_init_93 (fun H hW hS hc => ?_)
  obtain ⟨G64, e_G64⟩ : ∃ z : Lay, z = gA G58 100 416 416 := ⟨_, rfl⟩
  obtain ⟨s65, e_s65⟩ : ∃ z : Mem, z = sZ s61 (gN G58 + 1) := ⟨_, rfl⟩
  replace h := h G64 e_G64 s65 e_s65
  replace hW : Wd G64 D tc b0 s65 H := by rw [e_G64, e_s65]; exact hW
  rw [← e_G64] at hc
  have t66 := h.1
  replace h := h.2
  refine x_putFR C hW hS (t := 12) (k := 12) t66 kl_12 (by decide) fl_X12_41 rfl hin rfl rfl (fun o => by cases o <;> rfl) (fun o => by cases o <;> rfl) dX12_init_95 (fun H locs hW hS => ?_)
  obtain ⟨s67, e_s67⟩ : ∃ z : Mem, z = sR s65 l0 12 (gN G58 + 1) := ⟨_, rfl⟩
  replace h := h s67 e_s67
  replace hW : Wd G64 D tc b0 s67 H := by rw [e_s67]; exact hW
  refine x_aload_n C hl dX12_init_98 rfl ?_
  refine lv_sipush (v := (416 : Int32)) hx hb dX12_init_99 (by decide) ?_
  have a68 := h.1
  have a69 := h.2.1
  replace h := h.2.2
  refine x_newa C hW hS hc (atype := .int) (ty := .int) rfl (gc1 61 rfl rfl) (code := 100) (t0 := 0) (n := 416) (by decide) rfl (fun _ h => h) (by decide) (by decide) (by decide) (fun cA => con_zi (by decide) cA) (lim1 hc a68) (lim2 hc a69) dX12_init_102 (fun H hW hS hc => ?_)
  obtain ⟨G70, e_G70⟩ : ∃ z : Lay, z = gA G64 100 416 416 := ⟨_, rfl⟩
  obtain ⟨s71, e_s71⟩ : ∃ z : Mem, z = sZ s67 (gN G64 + 1) := ⟨_, rfl⟩
  replace h := h G70 e_G70 s71 e_s71
  replace hW : Wd G70 D tc b0 s71 H := by rw [e_G70, e_s71]; exact hW
  rw [← e_G70] at hc
  have t72 := h.1
  replace h := h.2
  refine x_putFR C hW hS (t := 12) (k := 13) t72 kl_12 (by decide) fl_X12_44 rfl hin rfl rfl (fun o => by cases o <;> rfl) (fun o => by cases o <;> rfl) dX12_init_104 (fun H locs hW hS => ?_)
  obtain ⟨s73, e_s73⟩ : ∃ z : Mem, z = sR s71 l0 13 (gN G64 + 1) := ⟨_, rfl⟩
  replace h := h s73 e_s73
  replace hW : Wd G70 D tc b0 s73 H := by rw [e_s73]; exact hW
  refine x_aload_n C hl dX12_init_107 rfl ?_
  refine lv_sipush (v := (416 : Int32)) hx hb dX12_init_108 (by decide) ?_
  have a74 := h.1
  have a75 := h.2.1
  replace h := h.2.2
  refine x_newa C hW hS hc (atype := .int) (ty := .int) rfl (gc1 61 rfl rfl) (code := 100) (t0 := 0) (n := 416) (by decide) rfl (fun _ h => h) (by decide) (by decide) (by decide) (fun cA => con_zi (by decide) cA) (lim1 hc a74) (lim2 hc a75) dX12_init_111 (fun H hW hS hc => ?_)
  obtain ⟨G76, e_G76⟩ : ∃ z : Lay, z = gA G70 100 416 416 := ⟨_, rfl⟩
  obtain ⟨s77, e_s77⟩ : ∃ z : Mem, z = sZ s73 (gN G70 + 1) := ⟨_, rfl⟩
  replace h := h G76 e_G76 s77 e_s77
  replace hW : Wd G76 D tc b0 s77 H := by rw [e_G76, e_s77]; exact hW
  rw [← e_G76] at hc
  have t78 := h.1
  replace h := h.2
  refine x_putFR C hW hS (t := 12) (k := 14) t78 kl_12 (by decide) fl_X12_47 rfl hin rfl rfl (fun o => by cases o <;> rfl) (fun o => by cases o <;> rfl) dX12_init_113 (fun H locs hW hS => ?_)
  obtain ⟨s79, e_s79⟩ : ∃ z : Mem, z = sR s77 l0 14 (gN G70 + 1) := ⟨_, rfl⟩
  replace h := h s79 e_s79
  replace hW : Wd G76 D tc b0 s79 H := by rw [e_s79]; exact hW
  refine x_aload_n C hl dX12_init_116 rfl ?_
  refine lv_sipush (v := (416 : Int32)) hx hb dX12_init_117 (by decide) ?_
  have a80 := h.1
  have a81 := h.2.1
  replace h := h.2.2
  refine x_newa C hW hS hc (atype := .int) (ty := .int) rfl (gc1 61 rfl rfl) (code := 100) (t0 := 0) (n := 416) (by decide) rfl (fun _ h => h) (by decide) (by decide) (by decide) (fun cA => con_zi (by decide) cA) (lim1 hc a80) (lim2 hc a81) dX12_init_120 (fun H hW hS hc => ?_)
  obtain ⟨G82, e_G82⟩ : ∃ z : Lay, z = gA G76 100 416 416 := ⟨_, rfl⟩
  obtain ⟨s83, e_s83⟩ : ∃ z : Mem, z = sZ s79 (gN G76 + 1) := ⟨_, rfl⟩
  replace h := h G82 e_G82 s83 e_s83
  replace hW : Wd G82 D tc b0 s83 H := by rw [e_G82, e_s83]; exact hW
  rw [← e_G82] at hc
  have t84 := h.1
  replace h := h.2
  refine x_putFR C hW hS (t := 12) (k := 15) t84 kl_12 (by decide) fl_X12_50 rfl hin rfl rfl (fun o => by cases o <;> rfl) (fun o => by cases o <;> rfl) dX12_init_122 (fun H locs hW hS => ?_)
  obtain ⟨s85, e_s85⟩ : ∃ z : Mem, z = sR s83 l0 15 (gN G76 + 1) := ⟨_, rfl⟩
  replace h := h s85 e_s85
  replace hW : Wd G82 D tc b0 s85 H := by rw [e_s85]; exact hW
  refine x_aload_n C hl dX12_init_125 rfl ?_
  refine lv_sipush (v := (416 : Int32)) hx hb dX12_init_126 (by decide) ?_
  have a86 := h.1
  have a87 := h.2.1
  replace h := h.2.2
  refine x_newa C hW hS hc (atype := .long) (ty := .long) rfl (gc1 62 rfl rfl) (code := 103) (t0 := 3) (n := 416) (by decide) rfl (fun _ h => h) (by decide) (by decide) (by decide) (fun cA => con_zl cA) (lim1 hc a86) (lim2 hc a87) dX12_init_129 (fun H hW hS hc => ?_)
  obtain ⟨G88, e_G88⟩ : ∃ z : Lay, z = gA G82 103 416 416 := ⟨_, rfl⟩
  obtain ⟨s89, e_s89⟩ : ∃ z : Mem, z = sZ s85 (gN G82 + 1) := ⟨_, rfl⟩
  replace h := h G88 e_G88 s89 e_s89
  replace hW : Wd G88 D tc b0 s89 H := by rw [e_G88, e_s89]; exact hW
  rw [← e_G88] at hc
  have t90 := h.1
  replace h := h.2
  refine x_putFR C hW hS (t := 12) (k := 16) t90 kl_12 (by decide) fl_X12_53 rfl hin rfl rfl (fun o => by cases o <;> rfl) (fun o => by cases o <;> rfl) dX12_init_131 (fun H locs hW hS => ?_)
  obtain ⟨s91, e_s91⟩ : ∃ z : Mem, z = sR s89 l0 16 (gN G82 + 1) := ⟨_, rfl⟩
  replace h := h s91 e_s91
  replace hW : Wd G88 D tc b0 s91 H := by rw [e_s91]; exact hW
  refine x_aload_n C hl dX12_init_134 rfl ?_
  refine lv_sipush (v := (416 : Int32)) hx hb dX12_init_135 (by decide) ?_
  have a92 := h.1
  have a93 := h.2.1
  replace h := h.2.2
  refine x_newa C hW hS hc (atype := .int) (ty := .int) rfl (gc1 61 rfl rfl) (code := 100) (t0 := 0) (n := 416) (by decide) rfl (fun _ h => h) (by decide) (by decide) (by decide) (fun cA => con_zi (by decide) cA) (lim1 hc a92) (lim2 hc a93) dX12_init_138 (fun H hW hS hc => ?_)
  obtain ⟨G94, e_G94⟩ : ∃ z : Lay, z = gA G88 100 416 416 := ⟨_, rfl⟩
  obtain ⟨s95, e_s95⟩ : ∃ z : Mem, z = sZ s91 (gN G88 + 1) := ⟨_, rfl⟩
  replace h := h G94 e_G94 s95 e_s95
  replace hW : Wd G94 D tc b0 s95 H := by rw [e_G94, e_s95]; exact hW
  rw [← e_G94] at hc
  have t96 := h.1
  replace h := h.2
  refine x_putFR C hW hS (t := 12) (k := 17) t96 kl_12 (by decide) fl_X12_56 rfl hin rfl rfl (fun o => by cases o <;> rfl) (fun o => by cases o <;> rfl) dX12_init_140 (fun H locs hW hS => ?_)
  obtain ⟨s97, e_s97⟩ : ∃ z : Mem, z = sR s95 l0 17 (gN G88 + 1) := ⟨_, rfl⟩
  replace h := h s97 e_s97
  replace hW : Wd G94 D tc b0 s97 H := by rw [e_s97]; exact hW
  refine x_aload_n C hl dX12_init_143 rfl ?_
  refine lv_sipush (v := (416 : Int32)) hx hb dX12_init_144 (by decide) ?_
  have a98 := h.1
  have a99 := h.2.1
  replace h := h.2.2
  refine x_newa C hW hS hc (atype := .long) (ty := .long) rfl (gc1 62 rfl rfl) (code := 103) (t0 := 3) (n := 416) (by decide) rfl (fun _ h => h) (by decide) (by decide) (by decide) (fun cA => con_zl cA) (lim1 hc a98) (lim2 hc a99) dX12_init_147 (fun H hW hS hc => ?_)
  obtain ⟨G100, e_G100⟩ : ∃ z : Lay, z = gA G94 103 416 416 := ⟨_, rfl⟩
  obtain ⟨s101, e_s101⟩ : ∃ z : Mem, z = sZ s97 (gN G94 + 1) := ⟨_, rfl⟩
  replace h := h G100 e_G100 s101 e_s101
  replace hW : Wd G100 D tc b0 s101 H := by rw [e_G100, e_s101]; exact hW
  rw [← e_G100] at hc
  have t102 := h.1
  replace h := h.2
  refine x_putFR C hW hS (t := 12) (k := 18) t102 kl_12 (by decide) fl_X12_59 rfl hin rfl rfl (fun o => by cases o <;> rfl) (fun o => by cases o <;> rfl) dX12_init_149 (fun H locs hW hS => ?_)
  obtain ⟨s103, e_s103⟩ : ∃ z : Mem, z = sR s101 l0 18 (gN G94 + 1) := ⟨_, rfl⟩
  replace h := h s103 e_s103
  replace hW : Wd G100 D tc b0 s103 H := by rw [e_s103]; exact hW
  refine x_aload_n C hl dX12_init_152 rfl ?_
  refine lv_sipush (v := (416 : Int32)) hx hb dX12_init_153 (by decide) ?_
  have a104 := h.1
  have a105 := h.2.1
  replace h := h.2.2
  refine x_newa C hW hS hc (atype := .int) (ty := .int) rfl (gc1 61 rfl rfl) (code := 100) (t0 := 0) (n := 416) (by decide) rfl (fun _ h => h) (by decide) (by decide) (by decide) (fun cA => con_zi (by decide) cA) (lim1 hc a104) (lim2 hc a105) dX12_init_156 (fun H hW hS hc => ?_)
  obtain ⟨G106, e_G106⟩ : ∃ z : Lay, z = gA G100 100 416 416 := ⟨_, rfl⟩
  obtain ⟨s107, e_s107⟩ : ∃ z : Mem, z = sZ s103 (gN G100 + 1) := ⟨_, rfl⟩
  replace h := h G106 e_G106 s107 e_s107
  replace hW : Wd G106 D tc b0 s107 H := by rw [e_G106, e_s107]; exact hW
  rw [← e_G106] at hc
  have t108 := h.1
  replace h := h.2
  refine x_putFR C hW hS (t := 12) (k := 19) t108 kl_12 (by decide) fl_X12_62 rfl hin rfl rfl (fun o => by cases o <;> rfl) (fun o => by cases o <;> rfl) dX12_init_158 (fun H locs hW hS => ?_)
  obtain ⟨s109, e_s109⟩ : ∃ z : Mem, z = sR s107 l0 19 (gN G100 + 1) := ⟨_, rfl⟩
  replace h := h s109 e_s109
  replace hW : Wd G106 D tc b0 s109 H := by rw [e_s109]; exact hW
  refine x_aload_n C hl dX12_init_161 rfl ?_
  refine lv_bipush (v := (104 : Int32)) hx hb dX12_init_162 (by decide) ?_
  have a110 := h.1
  have a111 := h.2.1
  replace h := h.2.2
  refine x_newa C hW hS hc (atype := .int) (ty := .int) rfl (gc1 61 rfl rfl) (code := 100) (t0 := 0) (n := 104) (by decide) rfl (fun _ h => h) (by decide) (by decide) (by decide) (fun cA => con_zi (by decide) cA) (lim1 hc a110) (lim2 hc a111) dX12_init_164 (fun H hW hS hc => ?_)
  obtain ⟨G112, e_G112⟩ : ∃ z : Lay, z = gA G106 100 104 104 := ⟨_, rfl⟩
  obtain ⟨s113, e_s113⟩ : ∃ z : Mem, z = sZ s109 (gN G106 + 1) := ⟨_, rfl⟩
  replace h := h G112 e_G112 s113 e_s113
  replace hW : Wd G112 D tc b0 s113 H := by rw [e_G112, e_s113]; exact hW
  rw [← e_G112] at hc
  have t114 := h.1
  replace h := h.2
  refine x_putFR C hW hS (t := 12) (k := 20) t114 kl_12 (by decide) fl_X12_65 rfl hin rfl rfl (fun o => by cases o <;> rfl) (fun o => by cases o <;> rfl) dX12_init_166 (fun H locs hW hS => ?_)
  obtain ⟨s115, e_s115⟩ : ∃ z : Mem, z = sR s113 l0 20 (gN G106 + 1) := ⟨_, rfl⟩
  replace h := h s115 e_s115
  replace hW : Wd G112 D tc b0 s115 H := by rw [e_s115]; exact hW
  refine x_aload_n C hl dX12_init_169 rfl ?_
  refine lv_bipush (v := (104 : Int32)) hx hb dX12_init_170 (by decide) ?_
  have a116 := h.1
  have a117 := h.2.1
  replace h := h.2.2
  refine x_newa C hW hS hc (atype := .int) (ty := .int) rfl (gc1 61 rfl rfl) (code := 100) (t0 := 0) (n := 104) (by decide) rfl (fun _ h => h) (by decide) (by decide) (by decide) (fun cA => con_zi (by decide) cA) (lim1 hc a116) (lim2 hc a117) dX12_init_172 (fun H hW hS hc => ?_)
  obtain ⟨G118, e_G118⟩ : ∃ z : Lay, z = gA G112 100 104 104 := ⟨_, rfl⟩
  obtain ⟨s119, e_s119⟩ : ∃ z : Mem, z = sZ s115 (gN G112 + 1) := ⟨_, rfl⟩
  replace h := h G118 e_G118 s119 e_s119
  replace hW : Wd G118 D tc b0 s119 H := by rw [e_G118, e_s119]; exact hW
  rw [← e_G118] at hc
  have t120 := h.1
  replace h := h.2
  refine x_putFR C hW hS (t := 12) (k := 21) t120 kl_12 (by decide) fl_X12_68 rfl hin rfl rfl (fun o => by cases o <;> rfl) (fun o => by cases o <;> rfl) dX12_init_174 (fun H locs hW hS => ?_)
  obtain ⟨s121, e_s121⟩ : ∃ z : Mem, z = sR s119 l0 21 (gN G112 + 1) := ⟨_, rfl⟩
  replace h := h s121 e_s121
  replace hW : Wd G118 D tc b0 s121 H := by rw [e_s121]; exact hW
  refine x_aload_n C hl dX12_init_177 rfl ?_
  refine lv_bipush (v := (104 : Int32)) hx hb dX12_init_178 (by decide) ?_
  have a122 := h.1
  have a123 := h.2.1
  replace h := h.2.2
  refine x_newa C hW hS hc (atype := .int) (ty := .int) rfl (gc1 61 rfl rfl) (code := 100) (t0 := 0) (n := 104) (by decide) rfl (fun _ h => h) (by decide) (by decide) (by decide) (fun cA => con_zi (by decide) cA) (lim1 hc a122) (lim2 hc a123) dX12_init_180 (fun H hW hS hc => ?_)
  obtain ⟨G124, e_G124⟩ : ∃ z : Lay, z = gA G118 100 104 104 := ⟨_, rfl⟩
  obtain ⟨s125, e_s125⟩ : ∃ z : Mem, z = sZ s121 (gN G118 + 1) := ⟨_, rfl⟩
  replace h := h G124 e_G124 s125 e_s125
  replace hW : Wd G124 D tc b0 s125 H := by rw [e_G124, e_s125]; exact hW
  rw [← e_G124] at hc
  have t126 := h.1
  replace h := h.2
  refine x_putFR C hW hS (t := 12) (k := 22) t126 kl_12 (by decide) fl_X12_71 rfl hin rfl rfl (fun o => by cases o <;> rfl) (fun o => by cases o <;> rfl) dX12_init_182 (fun H locs hW hS => ?_)
  obtain ⟨s127, e_s127⟩ : ∃ z : Mem, z = sR s125 l0 22 (gN G118 + 1) := ⟨_, rfl⟩
  replace h := h s127 e_s127
  replace hW : Wd G124 D tc b0 s127 H := by rw [e_s127]; exact hW
  refine x_aload_n C hl dX12_init_185 rfl ?_
  refine lv_sipush (v := (3200 : Int32)) hx hb dX12_init_186 (by decide) ?_
  have a128 := h.1
  have a129 := h.2.1
  replace h := h.2.2
  refine x_newa C hW hS hc (atype := .long) (ty := .long) rfl (gc1 62 rfl rfl) (code := 103) (t0 := 3) (n := 3200) (by decide) rfl (fun _ h => h) (by decide) (by decide) (by decide) (fun cA => con_zl cA) (lim1 hc a128) (lim2 hc a129) dX12_init_189 (fun H hW hS hc => ?_)
  obtain ⟨G130, e_G130⟩ : ∃ z : Lay, z = gA G124 103 3200 3200 := ⟨_, rfl⟩
  obtain ⟨s131, e_s131⟩ : ∃ z : Mem, z = sZ s127 (gN G124 + 1) := ⟨_, rfl⟩
  replace h := h G130 e_G130 s131 e_s131
  replace hW : Wd G130 D tc b0 s131 H := by rw [e_G130, e_s131]; exact hW
  rw [← e_G130] at hc
  have t132 := h.1
  replace h := h.2
  refine x_putFR C hW hS (t := 12) (k := 23) t132 kl_12 (by decide) fl_X12_74 rfl hin rfl rfl (fun o => by cases o <;> rfl) (fun o => by cases o <;> rfl) dX12_init_191 (fun H locs hW hS => ?_)
  obtain ⟨s133, e_s133⟩ : ∃ z : Mem, z = sR s131 l0 23 (gN G124 + 1) := ⟨_, rfl⟩
  replace h := h s133 e_s133
  replace hW : Wd G130 D tc b0 s133 H := by rw [e_s133]; exact hW
  refine x_aload_n C hl dX12_init_194 rfl ?_
  refine lv_sipush (v := (720 : Int32)) hx hb dX12_init_195 (by decide) ?_
  have a134 := h.1
  have a135 := h.2.1
  replace h := h.2.2
  refine x_newa C hW hS hc (atype := .int) (ty := .int) rfl (gc1 61 rfl rfl) (code := 100) (t0 := 0) (n := 720) (by decide) rfl (fun _ h => h) (by decide) (by decide) (by decide) (fun cA => con_zi (by decide) cA) (lim1 hc a134) (lim2 hc a135) dX12_init_198 (fun H hW hS hc => ?_)
  obtain ⟨G136, e_G136⟩ : ∃ z : Lay, z = gA G130 100 720 720 := ⟨_, rfl⟩
  obtain ⟨s137, e_s137⟩ : ∃ z : Mem, z = sZ s133 (gN G130 + 1) := ⟨_, rfl⟩
  replace h := h G136 e_G136 s137 e_s137
  replace hW : Wd G136 D tc b0 s137 H := by rw [e_G136, e_s137]; exact hW
  rw [← e_G136] at hc
  have t138 := h.1
  replace h := h.2
  refine x_putFR C hW hS (t := 12) (k := 27) t138 kl_12 (by decide) fl_X12_77 rfl hin rfl rfl (fun o => by cases o <;> rfl) (fun o => by cases o <;> rfl) dX12_init_200 (fun H locs hW hS => ?_)
  obtain ⟨s139, e_s139⟩ : ∃ z : Mem, z = sR s137 l0 27 (gN G130 + 1) := ⟨_, rfl⟩
  replace h := h s139 e_s139
  replace hW : Wd G136 D tc b0 s139 H := by rw [e_s139]; exact hW
  refine x_aload_n C hl dX12_init_203 rfl ?_
  refine lv_sipush (v := (720 : Int32)) hx hb dX12_init_204 (by decide) ?_
  have a140 := h.1
  have a141 := h.2.1
  replace h := h.2.2
  refine x_newa C hW hS hc (atype := .int) (ty := .int) rfl (gc1 61 rfl rfl) (code := 100) (t0 := 0) (n := 720) (by decide) rfl (fun _ h => h) (by decide) (by decide) (by decide) (fun cA => con_zi (by decide) cA) (lim1 hc a140) (lim2 hc a141) dX12_init_207 (fun H hW hS hc => ?_)
  obtain ⟨G142, e_G142⟩ : ∃ z : Lay, z = gA G136 100 720 720 := ⟨_, rfl⟩
  obtain ⟨s143, e_s143⟩ : ∃ z : Mem, z = sZ s139 (gN G136 + 1) := ⟨_, rfl⟩
  replace h := h G142 e_G142 s143 e_s143
  replace hW : Wd G142 D tc b0 s143 H := by rw [e_G142, e_s143]; exact hW
  rw [← e_G142] at hc
  have t144 := h.1
  replace h := h.2
  refine x_putFR C hW hS (t := 12) (k := 28) t144 kl_12 (by decide) fl_X12_80 rfl hin rfl rfl (fun o => by cases o <;> rfl) (fun o => by cases o <;> rfl) dX12_init_209 (fun H locs hW hS => ?_)
  obtain ⟨s145, e_s145⟩ : ∃ z : Mem, z = sR s143 l0 28 (gN G136 + 1) := ⟨_, rfl⟩
  replace h := h s145 e_s145
  replace hW : Wd G142 D tc b0 s145 H := by rw [e_s145]; exact hW
  refine x_aload_n C hl dX12_init_212 rfl ?_
  refine lv_sipush (v := (720 : Int32)) hx hb dX12_init_213 (by decide) ?_
  have a146 := h.1
  have a147 := h.2.1
  replace h := h.2.2
  refine x_newa C hW hS hc (atype := .int) (ty := .int) rfl (gc1 61 rfl rfl) (code := 100) (t0 := 0) (n := 720) (by decide) rfl (fun _ h => h) (by decide) (by decide) (by decide) (fun cA => con_zi (by decide) cA) (lim1 hc a146) (lim2 hc a147) dX12_init_216 (fun H hW hS hc => ?_)
  obtain ⟨G148, e_G148⟩ : ∃ z : Lay, z = gA G142 100 720 720 := ⟨_, rfl⟩
  obtain ⟨s149, e_s149⟩ : ∃ z : Mem, z = sZ s145 (gN G142 + 1) := ⟨_, rfl⟩
  replace h := h G148 e_G148 s149 e_s149
  replace hW : Wd G148 D tc b0 s149 H := by rw [e_G148, e_s149]; exact hW
  rw [← e_G148] at hc
  have t150 := h.1
  replace h := h.2
  refine x_putFR C hW hS (t := 12) (k := 29) t150 kl_12 (by decide) fl_X12_83 rfl hin rfl rfl (fun o => by cases o <;> rfl) (fun o => by cases o <;> rfl) dX12_init_218 (fun H locs hW hS => ?_)
  obtain ⟨s151, e_s151⟩ : ∃ z : Mem, z = sR s149 l0 29 (gN G142 + 1) := ⟨_, rfl⟩
  replace h := h s151 e_s151
  replace hW : Wd G148 D tc b0 s151 H := by rw [e_s151]; exact hW
  refine x_aload_n C hl dX12_init_221 rfl ?_
  refine lv_sipush (v := (720 : Int32)) hx hb dX12_init_222 (by decide) ?_
  have a152 := h.1
  have a153 := h.2.1
  replace h := h.2.2
  refine x_newa C hW hS hc (atype := .int) (ty := .int) rfl (gc1 61 rfl rfl) (code := 100) (t0 := 0) (n := 720) (by decide) rfl (fun _ h => h) (by decide) (by decide) (by decide) (fun cA => con_zi (by decide) cA) (lim1 hc a152) (lim2 hc a153) dX12_init_225 (fun H hW hS hc => ?_)
  obtain ⟨G154, e_G154⟩ : ∃ z : Lay, z = gA G148 100 720 720 := ⟨_, rfl⟩
  obtain ⟨s155, e_s155⟩ : ∃ z : Mem, z = sZ s151 (gN G148 + 1) := ⟨_, rfl⟩
  replace h := h G154 e_G154 s155 e_s155
  replace hW : Wd G154 D tc b0 s155 H := by rw [e_G154, e_s155]; exact hW
  rw [← e_G154] at hc
  have t156 := h.1
  replace h := h.2
  refine x_putFR C hW hS (t := 12) (k := 30) t156 kl_12 (by decide) fl_X12_86 rfl hin rfl rfl (fun o => by cases o <;> rfl) (fun o => by cases o <;> rfl) dX12_init_227 (fun H locs hW hS => ?_)
  obtain ⟨s157, e_s157⟩ : ∃ z : Mem, z = sR s155 l0 30 (gN G148 + 1) := ⟨_, rfl⟩
  replace h := h s157 e_s157
  replace hW : Wd G154 D tc b0 s157 H := by rw [e_s157]; exact hW
  refine x_aload_n C hl dX12_init_230 rfl ?_
  refine lv_sipush (v := (11520 : Int32)) hx hb dX12_init_231 (by decide) ?_
  have a158 := h.1
  have a159 := h.2.1
  replace h := h.2.2
  refine x_newa C hW hS hc (atype := .int) (ty := .int) rfl (gc1 61 rfl rfl) (code := 100) (t0 := 0) (n := 11520) (by decide) rfl (fun _ h => h) (by decide) (by decide) (by decide) (fun cA => con_zi (by decide) cA) (lim1 hc a158) (lim2 hc a159) dX12_init_234 (fun H hW hS hc => ?_)
  obtain ⟨G160, e_G160⟩ : ∃ z : Lay, z = gA G154 100 11520 11520 := ⟨_, rfl⟩
  obtain ⟨s161, e_s161⟩ : ∃ z : Mem, z = sZ s157 (gN G154 + 1) := ⟨_, rfl⟩
  replace h := h G160 e_G160 s161 e_s161
  replace hW : Wd G160 D tc b0 s161 H := by rw [e_G160, e_s161]; exact hW
  rw [← e_G160] at hc
  have t162 := h.1
  replace h := h.2
  refine x_putFR C hW hS (t := 12) (k := 31) t162 kl_12 (by decide) fl_X12_89 rfl hin rfl rfl (fun o => by cases o <;> rfl) (fun o => by cases o <;> rfl) dX12_init_236 (fun H locs hW hS => ?_)
  obtain ⟨s163, e_s163⟩ : ∃ z : Mem, z = sR s161 l0 31 (gN G154 + 1) := ⟨_, rfl⟩
  replace h := h s163 e_s163
  replace hW : Wd G160 D tc b0 s163 H := by rw [e_s163]; exact hW
  refine x_aload_n C hl dX12_init_239 rfl ?_
  refine lv_bipush (v := (12 : Int32)) hx hb dX12_init_240 (by decide) ?_
  have a164 := h.1
  have a165 := h.2.1
  replace h := h.2.2
  refine x_newa C hW hS hc (atype := .int) (ty := .int) rfl (gc1 61 rfl rfl) (code := 100) (t0 := 0) (n := 12) (by decide) rfl (fun _ h => h) (by decide) (by decide) (by decide) (fun cA => con_zi (by decide) cA) (lim1 hc a164) (lim2 hc a165) dX12_init_242 (fun H hW hS hc => ?_)
  obtain ⟨G166, e_G166⟩ : ∃ z : Lay, z = gA G160 100 12 12 := ⟨_, rfl⟩
  obtain ⟨s167, e_s167⟩ : ∃ z : Mem, z = sZ s163 (gN G160 + 1) := ⟨_, rfl⟩
  replace h := h G166 e_G166 s167 e_s167
  replace hW : Wd G166 D tc b0 s167 H := by rw [e_G166, e_s167]; exact hW
  rw [← e_G166] at hc
  have t168 := h.1
  replace h := h.2
  refine x_putFR C hW hS (t := 12) (k := 32) t168 kl_12 (by decide) fl_X12_92 rfl hin rfl rfl (fun o => by cases o <;> rfl) (fun o => by cases o <;> rfl) dX12_init_244 (fun H locs hW hS => ?_)
  obtain ⟨s169, e_s169⟩ : ∃ z : Mem, z = sR s167 l0 32 (gN G160 + 1) := ⟨_, rfl⟩
  replace h := h s169 e_s169
  replace hW : Wd G166 D tc b0 s169 H := by rw [e_s169]; exact hW
  refine x_aload_n C hl dX12_init_247 rfl ?_
  refine lv_sipush (v := (720 : Int32)) hx hb dX12_init_248 (by decide) ?_
  have a170 := h.1
  have a171 := h.2.1
  replace h := h.2.2
  refine x_newa C hW hS hc (atype := .int) (ty := .int) rfl (gc1 61 rfl rfl) (code := 100) (t0 := 0) (n := 720) (by decide) rfl (fun _ h => h) (by decide) (by decide) (by decide) (fun cA => con_zi (by decide) cA) (lim1 hc a170) (lim2 hc a171) dX12_init_251 (fun H hW hS hc => ?_)
  obtain ⟨G172, e_G172⟩ : ∃ z : Lay, z = gA G166 100 720 720 := ⟨_, rfl⟩
  obtain ⟨s173, e_s173⟩ : ∃ z : Mem, z = sZ s169 (gN G166 + 1) := ⟨_, rfl⟩
  replace h := h G172 e_G172 s173 e_s173
  replace hW : Wd G172 D tc b0 s173 H := by rw [e_G172, e_s173]; exact hW
  rw [← e_G172] at hc
  have t174 := h.1
  replace h := h.2
  refine x_putFR C hW hS (t := 12) (k := 34) t174 kl_12 (by decide) fl_X12_95 rfl hin rfl rfl (fun o => by cases o <;> rfl) (fun o => by cases o <;> rfl) dX12_init_253 (fun H locs hW hS => ?_)
  obtain ⟨s175, e_s175⟩ : ∃ z : Mem, z = sR s173 l0 34 (gN G166 + 1) := ⟨_, rfl⟩
  replace h := h s175 e_s175
  replace hW : Wd G172 D tc b0 s175 H := by rw [e_s175]; exact hW
  refine x_aload_n C hl dX12_init_256 rfl ?_
  refine lv_sipush (v := (720 : Int32)) hx hb dX12_init_257 (by decide) ?_
  have a176 := h.1
  have a177 := h.2.1
  replace h := h.2.2
  refine x_newa C hW hS hc (atype := .int) (ty := .int) rfl (gc1 61 rfl rfl) (code := 100) (t0 := 0) (n := 720) (by decide) rfl (fun _ h => h) (by decide) (by decide) (by decide) (fun cA => con_zi (by decide) cA) (lim1 hc a176) (lim2 hc a177) dX12_init_260 (fun H hW hS hc => ?_)
  obtain ⟨G178, e_G178⟩ : ∃ z : Lay, z = gA G172 100 720 720 := ⟨_, rfl⟩
  obtain ⟨s179, e_s179⟩ : ∃ z : Mem, z = sZ s175 (gN G172 + 1) := ⟨_, rfl⟩
  replace h := h G178 e_G178 s179 e_s179
  replace hW : Wd G178 D tc b0 s179 H := by rw [e_G178, e_s179]; exact hW
  rw [← e_G178] at hc
  have t180 := h.1
  replace h := h.2
  refine x_putFR C hW hS (t := 12) (k := 35) t180 kl_12 (by decide) fl_X12_98 rfl hin rfl rfl (fun o => by cases o <;> rfl) (fun o => by cases o <;> rfl) dX12_init_262 (fun H locs hW hS => ?_)
  obtain ⟨s181, e_s181⟩ : ∃ z : Mem, z = sR s179 l0 35 (gN G172 + 1) := ⟨_, rfl⟩
  replace h := h s181 e_s181
  replace hW : Wd G178 D tc b0 s181 H := by rw [e_s181]; exact hW
  refine x_aload_n C hl dX12_init_265 rfl ?_
  refine lv_sipush (v := (720 : Int32)) hx hb dX12_init_266 (by decide) ?_
  have a182 := h.1
  have a183 := h.2.1
  replace h := h.2.2
  refine x_newa C hW hS hc (atype := .int) (ty := .int) rfl (gc1 61 rfl rfl) (code := 100) (t0 := 0) (n := 720) (by decide) rfl (fun _ h => h) (by decide) (by decide) (by decide) (fun cA => con_zi (by decide) cA) (lim1 hc a182) (lim2 hc a183) dX12_init_269 (fun H hW hS hc => ?_)
  obtain ⟨G184, e_G184⟩ : ∃ z : Lay, z = gA G178 100 720 720 := ⟨_, rfl⟩
  obtain ⟨s185, e_s185⟩ : ∃ z : Mem, z = sZ s181 (gN G178 + 1) := ⟨_, rfl⟩
  replace h := h G184 e_G184 s185 e_s185
  replace hW : Wd G184 D tc b0 s185 H := by rw [e_G184, e_s185]; exact hW
  rw [← e_G184] at hc
  have t186 := h.1
  replace h := h.2
  refine x_putFR C hW hS (t := 12) (k := 36) t186 kl_12 (by decide) fl_X12_101 rfl hin rfl rfl (fun o => by cases o <;> rfl) (fun o => by cases o <;> rfl) dX12_init_271 (fun H locs hW hS => ?_)
  obtain ⟨s187, e_s187⟩ : ∃ z : Mem, z = sR s185 l0 36 (gN G178 + 1) := ⟨_, rfl⟩
  replace h := h s187 e_s187
  replace hW : Wd G184 D tc b0 s187 H := by rw [e_s187]; exact hW
  refine x_aload_n C hl dX12_init_274 rfl ?_
  refine lv_sipush (v := (720 : Int32)) hx hb dX12_init_275 (by decide) ?_
  have a188 := h.1
  have a189 := h.2.1
  replace h := h.2.2
  refine x_newa C hW hS hc (atype := .int) (ty := .int) rfl (gc1 61 rfl rfl) (code := 100) (t0 := 0) (n := 720) (by decide) rfl (fun _ h => h) (by decide) (by decide) (by decide) (fun cA => con_zi (by decide) cA) (lim1 hc a188) (lim2 hc a189) dX12_init_278 (fun H hW hS hc => ?_)
  obtain ⟨G190, e_G190⟩ : ∃ z : Lay, z = gA G184 100 720 720 := ⟨_, rfl⟩
  obtain ⟨s191, e_s191⟩ : ∃ z : Mem, z = sZ s187 (gN G184 + 1) := ⟨_, rfl⟩
  replace h := h G190 e_G190 s191 e_s191
  replace hW : Wd G190 D tc b0 s191 H := by rw [e_G190, e_s191]; exact hW
  rw [← e_G190] at hc
  have t192 := h.1
  replace h := h.2
  refine x_putFR C hW hS (t := 12) (k := 37) t192 kl_12 (by decide) fl_X12_104 rfl hin rfl rfl (fun o => by cases o <;> rfl) (fun o => by cases o <;> rfl) dX12_init_280 (fun H locs hW hS => ?_)
  obtain ⟨s193, e_s193⟩ : ∃ z : Mem, z = sR s191 l0 37 (gN G184 + 1) := ⟨_, rfl⟩
  replace h := h s193 e_s193
  replace hW : Wd G190 D tc b0 s193 H := by rw [e_s193]; exact hW
  refine x_aload_n C hl dX12_init_283 rfl ?_
  refine lv_sipush (v := (11520 : Int32)) hx hb dX12_init_284 (by decide) ?_
  have a194 := h.1
  have a195 := h.2.1
  replace h := h.2.2
  refine x_newa C hW hS hc (atype := .int) (ty := .int) rfl (gc1 61 rfl rfl) (code := 100) (t0 := 0) (n := 11520) (by decide) rfl (fun _ h => h) (by decide) (by decide) (by decide) (fun cA => con_zi (by decide) cA) (lim1 hc a194) (lim2 hc a195) dX12_init_287 (fun H hW hS hc => ?_)
  obtain ⟨G196, e_G196⟩ : ∃ z : Lay, z = gA G190 100 11520 11520 := ⟨_, rfl⟩
  obtain ⟨s197, e_s197⟩ : ∃ z : Mem, z = sZ s193 (gN G190 + 1) := ⟨_, rfl⟩
  replace h := h G196 e_G196 s197 e_s197
  replace hW : Wd G196 D tc b0 s197 H := by rw [e_G196, e_s197]; exact hW
  rw [← e_G196] at hc
  have t198 := h.1
  replace h := h.2
  refine x_putFR C hW hS (t := 12) (k := 38) t198 kl_12 (by decide) fl_X12_107 rfl hin rfl rfl (fun o => by cases o <;> rfl) (fun o => by cases o <;> rfl) dX12_init_289 (fun H locs hW hS => ?_)
  obtain ⟨s199, e_s199⟩ : ∃ z : Mem, z = sR s197 l0 38 (gN G190 + 1) := ⟨_, rfl⟩
  replace h := h s199 e_s199
  replace hW : Wd G196 D tc b0 s199 H := by rw [e_s199]; exact hW
  refine x_aload_n C hl dX12_init_292 rfl ?_
  refine lv_iconst (v := (4 : Int32)) hx hb dX12_init_293 (by decide) ?_
  have a200 := h.1
  have a201 := h.2.1
  replace h := h.2.2
  refine x_newa C hW hS hc (atype := .boolean) (ty := .boolean) rfl (gc1 198 rfl rfl) (code := 102) (t0 := 2) (n := 4) (by decide) rfl (fun _ h => h) (by decide) (by decide) (by decide) (fun cA => con_zi (by decide) cA) (lim1 hc a200) (lim2 hc a201) dX12_init_294 (fun H hW hS hc => ?_)
  obtain ⟨G202, e_G202⟩ : ∃ z : Lay, z = gA G196 102 4 4 := ⟨_, rfl⟩
  obtain ⟨s203, e_s203⟩ : ∃ z : Mem, z = sZ s199 (gN G196 + 1) := ⟨_, rfl⟩
  replace h := h G202 e_G202 s203 e_s203
  replace hW : Wd G202 D tc b0 s203 H := by rw [e_G202, e_s203]; exact hW
  rw [← e_G202] at hc
  have t204 := h.1
  replace h := h.2
  refine x_putFR C hW hS (t := 12) (k := 39) t204 kl_12 (by decide) fl_X12_110 rfl hin rfl rfl (fun o => by cases o <;> rfl) (fun o => by cases o <;> rfl) dX12_init_296 (fun H locs hW hS => ?_)
  obtain ⟨s205, e_s205⟩ : ∃ z : Mem, z = sR s203 l0 39 (gN G196 + 1) := ⟨_, rfl⟩
  replace h := h s205 e_s205
  replace hW : Wd G202 D tc b0 s205 H := by rw [e_s205]; exact hW
  refine x_aload_n C hl dX12_init_299 rfl ?_
  refine lv_iconst (v := (4 : Int32)) hx hb dX12_init_300 (by decide) ?_
  have a206 := h.1
  have a207 := h.2.1
  replace h := h.2.2
  refine x_newa C hW hS hc (atype := .int) (ty := .int) rfl (gc1 61 rfl rfl) (code := 100) (t0 := 0) (n := 4) (by decide) rfl (fun _ h => h) (by decide) (by decide) (by decide) (fun cA => con_zi (by decide) cA) (lim1 hc a206) (lim2 hc a207) dX12_init_301 (fun H hW hS hc => ?_)
  obtain ⟨G208, e_G208⟩ : ∃ z : Lay, z = gA G202 100 4 4 := ⟨_, rfl⟩
  obtain ⟨s209, e_s209⟩ : ∃ z : Mem, z = sZ s205 (gN G202 + 1) := ⟨_, rfl⟩
  replace h := h G208 e_G208 s209 e_s209
  replace hW : Wd G208 D tc b0 s209 H := by rw [e_G208, e_s209]; exact hW
  rw [← e_G208] at hc
  have t210 := h.1
  replace h := h.2
  refine x_putFR C hW hS (t := 12) (k := 40) t210 kl_12 (by decide) fl_X12_114 rfl hin rfl rfl (fun o => by cases o <;> rfl) (fun o => by cases o <;> rfl) dX12_init_303 (fun H locs hW hS => ?_)
  obtain ⟨s211, e_s211⟩ : ∃ z : Mem, z = sR s209 l0 40 (gN G202 + 1) := ⟨_, rfl⟩
  replace h := h s211 e_s211
  replace hW : Wd G208 D tc b0 s211 H := by rw [e_s211]; exact hW
  refine x_aload_n C hl dX12_init_306 rfl ?_
  refine lv_iconst (v := (4 : Int32)) hx hb dX12_init_307 (by decide) ?_
  have a212 := h.1
  have a213 := h.2.1
  replace h := h.2.2
  refine x_newa C hW hS hc (atype := .int) (ty := .int) rfl (gc1 61 rfl rfl) (code := 100) (t0 := 0) (n := 4) (by decide) rfl (fun _ h => h) (by decide) (by decide) (by decide) (fun cA => con_zi (by decide) cA) (lim1 hc a212) (lim2 hc a213) dX12_init_308 (fun H hW hS hc => ?_)
  obtain ⟨G214, e_G214⟩ : ∃ z : Lay, z = gA G208 100 4 4 := ⟨_, rfl⟩
  obtain ⟨s215, e_s215⟩ : ∃ z : Mem, z = sZ s211 (gN G208 + 1) := ⟨_, rfl⟩
  replace h := h G214 e_G214 s215 e_s215
  replace hW : Wd G214 D tc b0 s215 H := by rw [e_G214, e_s215]; exact hW
  rw [← e_G214] at hc
  have t216 := h.1
  replace h := h.2
  refine x_putFR C hW hS (t := 12) (k := 41) t216 kl_12 (by decide) fl_X12_117 rfl hin rfl rfl (fun o => by cases o <;> rfl) (fun o => by cases o <;> rfl) dX12_init_310 (fun H locs hW hS => ?_)
  obtain ⟨s217, e_s217⟩ : ∃ z : Mem, z = sR s215 l0 41 (gN G208 + 1) := ⟨_, rfl⟩
  replace h := h s217 e_s217
  replace hW : Wd G214 D tc b0 s217 H := by rw [e_s217]; exact hW
  refine x_aload_n C hl dX12_init_313 rfl ?_
  refine lv_sipush (v := (240 : Int32)) hx hb dX12_init_314 (by decide) ?_
  have a218 := h.1
  have a219 := h.2.1
  replace h := h.2.2
  refine x_newa C hW hS hc (atype := .int) (ty := .int) rfl (gc1 61 rfl rfl) (code := 100) (t0 := 0) (n := 240) (by decide) rfl (fun _ h => h) (by decide) (by decide) (by decide) (fun cA => con_zi (by decide) cA) (lim1 hc a218) (lim2 hc a219) dX12_init_317 (fun H hW hS hc => ?_)
  obtain ⟨G220, e_G220⟩ : ∃ z : Lay, z = gA G214 100 240 240 := ⟨_, rfl⟩
  obtain ⟨s221, e_s221⟩ : ∃ z : Mem, z = sZ s217 (gN G214 + 1) := ⟨_, rfl⟩
  replace h := h G220 e_G220 s221 e_s221
  replace hW : Wd G220 D tc b0 s221 H := by rw [e_G220, e_s221]; exact hW
  rw [← e_G220] at hc
  have t222 := h.1
  replace h := h.2
  refine x_putFR C hW hS (t := 12) (k := 42) t222 kl_12 (by decide) fl_X12_120 rfl hin rfl rfl (fun o => by cases o <;> rfl) (fun o => by cases o <;> rfl) dX12_init_319 (fun H locs hW hS => ?_)
  obtain ⟨s223, e_s223⟩ : ∃ z : Mem, z = sR s221 l0 42 (gN G214 + 1) := ⟨_, rfl⟩
  replace h := h s223 e_s223
  replace hW : Wd G220 D tc b0 s223 H := by rw [e_s223]; exact hW
  refine x_aload_n C hl dX12_init_322 rfl ?_
  refine lv_sipush (v := (240 : Int32)) hx hb dX12_init_323 (by decide) ?_
  have a224 := h.1
  have a225 := h.2.1
  replace h := h.2.2
  refine x_newa C hW hS hc (atype := .int) (ty := .int) rfl (gc1 61 rfl rfl) (code := 100) (t0 := 0) (n := 240) (by decide) rfl (fun _ h => h) (by decide) (by decide) (by decide) (fun cA => con_zi (by decide) cA) (lim1 hc a224) (lim2 hc a225) dX12_init_326 (fun H hW hS hc => ?_)
  obtain ⟨G226, e_G226⟩ : ∃ z : Lay, z = gA G220 100 240 240 := ⟨_, rfl⟩
  obtain ⟨s227, e_s227⟩ : ∃ z : Mem, z = sZ s223 (gN G220 + 1) := ⟨_, rfl⟩
  replace h := h G226 e_G226 s227 e_s227
  replace hW : Wd G226 D tc b0 s227 H := by rw [e_G226, e_s227]; exact hW
  rw [← e_G226] at hc
  have t228 := h.1
  replace h := h.2
  refine x_putFR C hW hS (t := 12) (k := 43) t228 kl_12 (by decide) fl_X12_123 rfl hin rfl rfl (fun o => by cases o <;> rfl) (fun o => by cases o <;> rfl) dX12_init_328 (fun H locs hW hS => ?_)
  obtain ⟨s229, e_s229⟩ : ∃ z : Mem, z = sR s227 l0 43 (gN G220 + 1) := ⟨_, rfl⟩
  replace h := h s229 e_s229
  replace hW : Wd G226 D tc b0 s229 H := by rw [e_s229]; exact hW
  refine x_aload_n C hl dX12_init_331 rfl ?_
  refine lv_sipush (v := (240 : Int32)) hx hb dX12_init_332 (by decide) ?_
  have a230 := h.1
  have a231 := h.2.1
  replace h := h.2.2
  refine x_newa C hW hS hc (atype := .int) (ty := .int) rfl (gc1 61 rfl rfl) (code := 100) (t0 := 0) (n := 240) (by decide) rfl (fun _ h => h) (by decide) (by decide) (by decide) (fun cA => con_zi (by decide) cA) (lim1 hc a230) (lim2 hc a231) dX12_init_335 (fun H hW hS hc => ?_)
  obtain ⟨G232, e_G232⟩ : ∃ z : Lay, z = gA G226 100 240 240 := ⟨_, rfl⟩
  obtain ⟨s233, e_s233⟩ : ∃ z : Mem, z = sZ s229 (gN G226 + 1) := ⟨_, rfl⟩
  replace h := h G232 e_G232 s233 e_s233
  replace hW : Wd G232 D tc b0 s233 H := by rw [e_G232, e_s233]; exact hW
  rw [← e_G232] at hc
  have t234 := h.1
  replace h := h.2
  refine x_putFR C hW hS (t := 12) (k := 44) t234 kl_12 (by decide) fl_X12_126 rfl hin rfl rfl (fun o => by cases o <;> rfl) (fun o => by cases o <;> rfl) dX12_init_337 (fun H locs hW hS => ?_)
  obtain ⟨s235, e_s235⟩ : ∃ z : Mem, z = sR s233 l0 44 (gN G226 + 1) := ⟨_, rfl⟩
  replace h := h s235 e_s235
  replace hW : Wd G232 D tc b0 s235 H := by rw [e_s235]; exact hW
  refine x_aload_n C hl dX12_init_340 rfl ?_
  refine lv_sipush (v := (240 : Int32)) hx hb dX12_init_341 (by decide) ?_
  have a236 := h.1
  have a237 := h.2.1
  replace h := h.2.2
  refine x_newa C hW hS hc (atype := .int) (ty := .int) rfl (gc1 61 rfl rfl) (code := 100) (t0 := 0) (n := 240) (by decide) rfl (fun _ h => h) (by decide) (by decide) (by decide) (fun cA => con_zi (by decide) cA) (lim1 hc a236) (lim2 hc a237) dX12_init_344 (fun H hW hS hc => ?_)
  obtain ⟨G238, e_G238⟩ : ∃ z : Lay, z = gA G232 100 240 240 := ⟨_, rfl⟩
  obtain ⟨s239, e_s239⟩ : ∃ z : Mem, z = sZ s235 (gN G232 + 1) := ⟨_, rfl⟩
  replace h := h G238 e_G238 s239 e_s239
  replace hW : Wd G238 D tc b0 s239 H := by rw [e_G238, e_s239]; exact hW
  rw [← e_G238] at hc
  have t240 := h.1
  replace h := h.2
  refine x_putFR C hW hS (t := 12) (k := 45) t240 kl_12 (by decide) fl_X12_129 rfl hin rfl rfl (fun o => by cases o <;> rfl) (fun o => by cases o <;> rfl) dX12_init_346 (fun H locs hW hS => ?_)
  obtain ⟨s241, e_s241⟩ : ∃ z : Mem, z = sR s239 l0 45 (gN G232 + 1) := ⟨_, rfl⟩
  replace h := h s241 e_s241
  replace hW : Wd G238 D tc b0 s241 H := by rw [e_s241]; exact hW
  refine x_aload_n C hl dX12_init_349 rfl ?_
  refine lv_sipush (v := (240 : Int32)) hx hb dX12_init_350 (by decide) ?_
  have a242 := h.1
  have a243 := h.2.1
  replace h := h.2.2
  refine x_newa C hW hS hc (atype := .int) (ty := .int) rfl (gc1 61 rfl rfl) (code := 100) (t0 := 0) (n := 240) (by decide) rfl (fun _ h => h) (by decide) (by decide) (by decide) (fun cA => con_zi (by decide) cA) (lim1 hc a242) (lim2 hc a243) dX12_init_353 (fun H hW hS hc => ?_)
  obtain ⟨G244, e_G244⟩ : ∃ z : Lay, z = gA G238 100 240 240 := ⟨_, rfl⟩
  obtain ⟨s245, e_s245⟩ : ∃ z : Mem, z = sZ s241 (gN G238 + 1) := ⟨_, rfl⟩
  replace h := h G244 e_G244 s245 e_s245
  replace hW : Wd G244 D tc b0 s245 H := by rw [e_G244, e_s245]; exact hW
  rw [← e_G244] at hc
  have t246 := h.1
  replace h := h.2
  refine x_putFR C hW hS (t := 12) (k := 46) t246 kl_12 (by decide) fl_X12_132 rfl hin rfl rfl (fun o => by cases o <;> rfl) (fun o => by cases o <;> rfl) dX12_init_355 (fun H locs hW hS => ?_)
  obtain ⟨s247, e_s247⟩ : ∃ z : Mem, z = sR s245 l0 46 (gN G238 + 1) := ⟨_, rfl⟩
  replace h := h s247 e_s247
  replace hW : Wd G244 D tc b0 s247 H := by rw [e_s247]; exact hW
  refine x_aload_n C hl dX12_init_358 rfl ?_
  refine lv_sipush (v := (3840 : Int32)) hx hb dX12_init_359 (by decide) ?_
  have a248 := h.1
  have a249 := h.2.1
  replace h := h.2.2
  refine x_newa C hW hS hc (atype := .int) (ty := .int) rfl (gc1 61 rfl rfl) (code := 100) (t0 := 0) (n := 3840) (by decide) rfl (fun _ h => h) (by decide) (by decide) (by decide) (fun cA => con_zi (by decide) cA) (lim1 hc a248) (lim2 hc a249) dX12_init_362 (fun H hW hS hc => ?_)
  obtain ⟨G250, e_G250⟩ : ∃ z : Lay, z = gA G244 100 3840 3840 := ⟨_, rfl⟩
  obtain ⟨s251, e_s251⟩ : ∃ z : Mem, z = sZ s247 (gN G244 + 1) := ⟨_, rfl⟩
  replace h := h G250 e_G250 s251 e_s251
  replace hW : Wd G250 D tc b0 s251 H := by rw [e_G250, e_s251]; exact hW
  rw [← e_G250] at hc
  have t252 := h.1
  replace h := h.2
  refine x_putFR C hW hS (t := 12) (k := 47) t252 kl_12 (by decide) fl_X12_135 rfl hin rfl rfl (fun o => by cases o <;> rfl) (fun o => by cases o <;> rfl) dX12_init_364 (fun H locs hW hS => ?_)
  obtain ⟨s253, e_s253⟩ : ∃ z : Mem, z = sR s251 l0 47 (gN G244 + 1) := ⟨_, rfl⟩
  replace h := h s253 e_s253
  replace hW : Wd G250 D tc b0 s253 H := by rw [e_s253]; exact hW
  refine x_aload_n C hl dX12_init_367 rfl ?_
  refine lv_sipush (v := (3840 : Int32)) hx hb dX12_init_368 (by decide) ?_
  have a254 := h.1
  have a255 := h.2.1
  replace h := h.2.2
  refine x_newa C hW hS hc (atype := .int) (ty := .int) rfl (gc1 61 rfl rfl) (code := 100) (t0 := 0) (n := 3840) (by decide) rfl (fun _ h => h) (by decide) (by decide) (by decide) (fun cA => con_zi (by decide) cA) (lim1 hc a254) (lim2 hc a255) dX12_init_371 (fun H hW hS hc => ?_)
  obtain ⟨G256, e_G256⟩ : ∃ z : Lay, z = gA G250 100 3840 3840 := ⟨_, rfl⟩
  obtain ⟨s257, e_s257⟩ : ∃ z : Mem, z = sZ s253 (gN G250 + 1) := ⟨_, rfl⟩
  replace h := h G256 e_G256 s257 e_s257
  replace hW : Wd G256 D tc b0 s257 H := by rw [e_G256, e_s257]; exact hW
  rw [← e_G256] at hc
  have t258 := h.1
  replace h := h.2
  refine x_putFR C hW hS (t := 12) (k := 48) t258 kl_12 (by decide) fl_X12_138 rfl hin rfl rfl (fun o => by cases o <;> rfl) (fun o => by cases o <;> rfl) dX12_init_373 (fun H locs hW hS => ?_)
  obtain ⟨s259, e_s259⟩ : ∃ z : Mem, z = sR s257 l0 48 (gN G250 + 1) := ⟨_, rfl⟩
  replace h := h s259 e_s259
  replace hW : Wd G256 D tc b0 s259 H := by rw [e_s259]; exact hW
  refine x_aload_n C hl dX12_init_376 rfl ?_
  refine lv_iconst (v := (-1 : Int32)) hx hb dX12_init_377 (by decide) ?_
  refine x_putI C hW hS (t := 12) (k := 55) t258 kl_12 (by decide) fl_X12_141 rfl rfl rfl rfl dX12_init_378 (fun H locs hW hS => ?_)
  obtain ⟨s260, e_s260⟩ : ∃ z : Mem, z = sI s259 l0 55 (-1 : Int32) := ⟨_, rfl⟩
  replace h := h s260 e_s260
  replace hW : Wd G256 D tc b0 s260 H := by rw [e_s260]; exact hW
  refine x_aload_n C hl dX12_init_381 rfl ?_
  refine lv_bipush (v := (64 : Int32)) hx hb dX12_init_382 (by decide) ?_
  have a261 := h.1
  have a262 := h.2.1
  replace h := h.2.2
  refine x_newa C hW hS hc (atype := .int) (ty := .int) rfl (gc1 61 rfl rfl) (code := 100) (t0 := 0) (n := 64) (by decide) rfl (fun _ h => h) (by decide) (by decide) (by decide) (fun cA => con_zi (by decide) cA) (lim1 hc a261) (lim2 hc a262) dX12_init_384 (fun H hW hS hc => ?_)
  obtain ⟨G263, e_G263⟩ : ∃ z : Lay, z = gA G256 100 64 64 := ⟨_, rfl⟩
  obtain ⟨s264, e_s264⟩ : ∃ z : Mem, z = sZ s260 (gN G256 + 1) := ⟨_, rfl⟩
  replace h := h G263 e_G263 s264 e_s264
  replace hW : Wd G263 D tc b0 s264 H := by rw [e_G263, e_s264]; exact hW
  rw [← e_G263] at hc
  have t265 := h.1
  replace h := h.2
  refine x_putFR C hW hS (t := 12) (k := 59) t265 kl_12 (by decide) fl_X12_145 rfl hin rfl rfl (fun o => by cases o <;> rfl) (fun o => by cases o <;> rfl) dX12_init_386 (fun H locs hW hS => ?_)
  obtain ⟨s266, e_s266⟩ : ∃ z : Mem, z = sR s264 l0 59 (gN G256 + 1) := ⟨_, rfl⟩
  replace h := h s266 e_s266
  replace hW : Wd G263 D tc b0 s266 H := by rw [e_s266]; exact hW
  refine x_aload_n C hl dX12_init_389 rfl ?_
  refine lv_sipush (v := (130 : Int32)) hx hb dX12_init_390 (by decide) ?_
  have a267 := h.1
  have a268 := h.2.1
  replace h := h.2.2
  refine x_newa C hW hS hc (atype := .int) (ty := .int) rfl (gc1 61 rfl rfl) (code := 100) (t0 := 0) (n := 130) (by decide) rfl (fun _ h => h) (by decide) (by decide) (by decide) (fun cA => con_zi (by decide) cA) (lim1 hc a267) (lim2 hc a268) dX12_init_393 (fun H hW hS hc => ?_)
  obtain ⟨G269, e_G269⟩ : ∃ z : Lay, z = gA G263 100 130 130 := ⟨_, rfl⟩
  obtain ⟨s270, e_s270⟩ : ∃ z : Mem, z = sZ s266 (gN G263 + 1) := ⟨_, rfl⟩
  replace h := h G269 e_G269 s270 e_s270
  replace hW : Wd G269 D tc b0 s270 H := by rw [e_G269, e_s270]; exact hW
  rw [← e_G269] at hc
  have t271 := h.1
  replace h := h.2
  refine x_putFR C hW hS (t := 12) (k := 61) t271 kl_12 (by decide) fl_X12_148 rfl hin rfl rfl (fun o => by cases o <;> rfl) (fun o => by cases o <;> rfl) dX12_init_395 (fun H locs hW hS => ?_)
  obtain ⟨s272, e_s272⟩ : ∃ z : Mem, z = sR s270 l0 61 (gN G263 + 1) := ⟨_, rfl⟩
  replace h := h s272 e_s272
  replace hW : Wd G269 D tc b0 s272 H := by rw [e_s272]; exact hW
  refine x_aload_n C hl dX12_init_398 rfl ?_
  refine lv_bipush (v := (60 : Int32)) hx hb dX12_init_399 (by decide) ?_
  have a273 := h.1
  have a274 := h.2.1
  replace h := h.2.2
  refine x_newa C hW hS hc (atype := .int) (ty := .int) rfl (gc1 61 rfl rfl) (code := 100) (t0 := 0) (n := 60) (by decide) rfl (fun _ h => h) (by decide) (by decide) (by decide) (fun cA => con_zi (by decide) cA) (lim1 hc a273) (lim2 hc a274) dX12_init_401 (fun H hW hS hc => ?_)
  obtain ⟨G275, e_G275⟩ : ∃ z : Lay, z = gA G269 100 60 60 := ⟨_, rfl⟩
  obtain ⟨s276, e_s276⟩ : ∃ z : Mem, z = sZ s272 (gN G269 + 1) := ⟨_, rfl⟩
  replace h := h G275 e_G275 s276 e_s276
  replace hW : Wd G275 D tc b0 s276 H := by rw [e_G275, e_s276]; exact hW
  rw [← e_G275] at hc
  have t277 := h.1
  replace h := h.2
  refine x_putFR C hW hS (t := 12) (k := 62) t277 kl_12 (by decide) fl_X12_151 rfl hin rfl rfl (fun o => by cases o <;> rfl) (fun o => by cases o <;> rfl) dX12_init_403 (fun H locs hW hS => ?_)
  obtain ⟨s278, e_s278⟩ : ∃ z : Mem, z = sR s276 l0 62 (gN G269 + 1) := ⟨_, rfl⟩
  replace h := h s278 e_s278
  replace hW : Wd G275 D tc b0 s278 H := by rw [e_s278]; exact hW
  refine x_aload_n C hl dX12_init_406 rfl ?_
  refine lv_sipush (v := (130 : Int32)) hx hb dX12_init_407 (by decide) ?_
  have a279 := h.1
  have a280 := h.2.1
  replace h := h.2.2
  refine x_newa C hW hS hc (atype := .int) (ty := .int) rfl (gc1 61 rfl rfl) (code := 100) (t0 := 0) (n := 130) (by decide) rfl (fun _ h => h) (by decide) (by decide) (by decide) (fun cA => con_zi (by decide) cA) (lim1 hc a279) (lim2 hc a280) dX12_init_410 (fun H hW hS hc => ?_)
  obtain ⟨G281, e_G281⟩ : ∃ z : Lay, z = gA G275 100 130 130 := ⟨_, rfl⟩
  obtain ⟨s282, e_s282⟩ : ∃ z : Mem, z = sZ s278 (gN G275 + 1) := ⟨_, rfl⟩
  replace h := h G281 e_G281 s282 e_s282
  replace hW : Wd G281 D tc b0 s282 H := by rw [e_G281, e_s282]; exact hW
  rw [← e_G281] at hc
  have t283 := h.1
  replace h := h.2
  refine x_putFR C hW hS (t := 12) (k := 63) t283 kl_12 (by decide) fl_X12_154 rfl hin rfl rfl (fun o => by cases o <;> rfl) (fun o => by cases o <;> rfl) dX12_init_412 (fun H locs hW hS => ?_)
  obtain ⟨s284, e_s284⟩ : ∃ z : Mem, z = sR s282 l0 63 (gN G275 + 1) := ⟨_, rfl⟩
  replace h := h s284 e_s284
  replace hW : Wd G281 D tc b0 s284 H := by rw [e_s284]; exact hW
  refine x_aload_n C hl dX12_init_415 rfl ?_
  refine lv_iconst (v := (-1 : Int32)) hx hb dX12_init_416 (by decide) ?_
  refine x_putI C hW hS (t := 12) (k := 65) t283 kl_12 (by decide) fl_X12_157 rfl rfl rfl rfl dX12_init_417 (fun H locs hW hS => ?_)
  obtain ⟨s285, e_s285⟩ : ∃ z : Mem, z = sI s284 l0 65 (-1 : Int32) := ⟨_, rfl⟩
  replace h := h s285 e_s285
  replace hW : Wd G281 D tc b0 s285 H := by rw [e_s285]; exact hW
  refine x_aload_n C hl dX12_init_420 rfl ?_
  refine lv_iconst (v := (-1 : Int32)) hx hb dX12_init_421 (by decide) ?_
  refine x_putI C hW hS (t := 12) (k := 66) t283 kl_12 (by decide) fl_X12_160 rfl rfl rfl rfl dX12_init_422 (fun H locs hW hS => ?_)
  obtain ⟨s286, e_s286⟩ : ∃ z : Mem, z = sI s285 l0 66 (-1 : Int32) := ⟨_, rfl⟩
  replace h := h s286 e_s286
  replace hW : Wd G281 D tc b0 s286 H := by rw [e_s286]; exact hW
  refine x_aload_n C hl dX12_init_425 rfl ?_
  refine lv_iconst (v := (-1 : Int32)) hx hb dX12_init_426 (by decide) ?_
  refine x_putI C hW hS (t := 12) (k := 67) t283 kl_12 (by decide) fl_X12_163 rfl rfl rfl rfl dX12_init_427 (fun H locs hW hS => ?_)
  obtain ⟨s287, e_s287⟩ : ∃ z : Mem, z = sI s286 l0 67 (-1 : Int32) := ⟨_, rfl⟩
  replace h := h s287 e_s287
  replace hW : Wd G281 D tc b0 s287 H := by rw [e_s287]; exact hW
  refine x_aload_n C hl dX12_init_430 rfl ?_
  refine lv_iconst (v := (-1 : Int32)) hx hb dX12_init_431 (by decide) ?_
  refine x_putI C hW hS (t := 12) (k := 68) t283 kl_12 (by decide) fl_X12_166 rfl rfl rfl rfl dX12_init_432 (fun H locs hW hS => ?_)
  obtain ⟨s288, e_s288⟩ : ∃ z : Mem, z = sI s287 l0 68 (-1 : Int32) := ⟨_, rfl⟩
  replace h := h s288 e_s288
  replace hW : Wd G281 D tc b0 s288 H := by rw [e_s288]; exact hW
  refine x_aload_n C hl dX12_init_435 rfl ?_
  refine lv_sipush (v := (200 : Int32)) hx hb dX12_init_436 (by decide) ?_
  have a289 := h.1
  have a290 := h.2.1
  replace h := h.2.2
  refine x_newa C hW hS hc (atype := .int) (ty := .int) rfl (gc1 61 rfl rfl) (code := 100) (t0 := 0) (n := 200) (by decide) rfl (fun _ h => h) (by decide) (by decide) (by decide) (fun cA => con_zi (by decide) cA) (lim1 hc a289) (lim2 hc a290) dX12_init_439 (fun H hW hS hc => ?_)
  obtain ⟨G291, e_G291⟩ : ∃ z : Lay, z = gA G281 100 200 200 := ⟨_, rfl⟩
  obtain ⟨s292, e_s292⟩ : ∃ z : Mem, z = sZ s288 (gN G281 + 1) := ⟨_, rfl⟩
  replace h := h G291 e_G291 s292 e_s292
  replace hW : Wd G291 D tc b0 s292 H := by rw [e_G291, e_s292]; exact hW
  rw [← e_G291] at hc
  have t293 := h.1
  replace h := h.2
  refine x_putFR C hW hS (t := 12) (k := 70) t293 kl_12 (by decide) fl_X12_169 rfl hin rfl rfl (fun o => by cases o <;> rfl) (fun o => by cases o <;> rfl) dX12_init_441 (fun H locs hW hS => ?_)
  obtain ⟨s294, e_s294⟩ : ∃ z : Mem, z = sR s292 l0 70 (gN G281 + 1) := ⟨_, rfl⟩
  replace h := h s294 e_s294
  replace hW : Wd G291 D tc b0 s294 H := by rw [e_s294]; exact hW
  refine x_aload_n C hl dX12_init_444 rfl ?_
  refine lv_sipush (v := (200 : Int32)) hx hb dX12_init_445 (by decide) ?_
  have a295 := h.1
  have a296 := h.2.1
  replace h := h.2.2
  refine x_newa C hW hS hc (atype := .int) (ty := .int) rfl (gc1 61 rfl rfl) (code := 100) (t0 := 0) (n := 200) (by decide) rfl (fun _ h => h) (by decide) (by decide) (by decide) (fun cA => con_zi (by decide) cA) (lim1 hc a295) (lim2 hc a296) dX12_init_448 (fun H hW hS hc => ?_)
  obtain ⟨G297, e_G297⟩ : ∃ z : Lay, z = gA G291 100 200 200 := ⟨_, rfl⟩
  obtain ⟨s298, e_s298⟩ : ∃ z : Mem, z = sZ s294 (gN G291 + 1) := ⟨_, rfl⟩
  replace h := h G297 e_G297 s298 e_s298
  replace hW : Wd G297 D tc b0 s298 H := by rw [e_G297, e_s298]; exact hW
  rw [← e_G297] at hc
  have t299 := h.1
  replace h := h.2
  refine x_putFR C hW hS (t := 12) (k := 71) t299 kl_12 (by decide) fl_X12_172 rfl hin rfl rfl (fun o => by cases o <;> rfl) (fun o => by cases o <;> rfl) dX12_init_450 (fun H locs hW hS => ?_)
  obtain ⟨s300, e_s300⟩ : ∃ z : Mem, z = sR s298 l0 71 (gN G291 + 1) := ⟨_, rfl⟩
  replace h := h s300 e_s300
  replace hW : Wd G297 D tc b0 s300 H := by rw [e_s300]; exact hW
  refine x_aload_n C hl dX12_init_453 rfl ?_
  refine lv_sipush (v := (200 : Int32)) hx hb dX12_init_454 (by decide) ?_
  have a301 := h.1
  have a302 := h.2.1
  replace h := h.2.2
  refine x_newa C hW hS hc (atype := .int) (ty := .int) rfl (gc1 61 rfl rfl) (code := 100) (t0 := 0) (n := 200) (by decide) rfl (fun _ h => h) (by decide) (by decide) (by decide) (fun cA => con_zi (by decide) cA) (lim1 hc a301) (lim2 hc a302) dX12_init_457 (fun H hW hS hc => ?_)
  obtain ⟨G303, e_G303⟩ : ∃ z : Lay, z = gA G297 100 200 200 := ⟨_, rfl⟩
  obtain ⟨s304, e_s304⟩ : ∃ z : Mem, z = sZ s300 (gN G297 + 1) := ⟨_, rfl⟩
  replace h := h G303 e_G303 s304 e_s304
  replace hW : Wd G303 D tc b0 s304 H := by rw [e_G303, e_s304]; exact hW
  rw [← e_G303] at hc
  have t305 := h.1
  replace h := h.2
  refine x_putFR C hW hS (t := 12) (k := 72) t305 kl_12 (by decide) fl_X12_175 rfl hin rfl rfl (fun o => by cases o <;> rfl) (fun o => by cases o <;> rfl) dX12_init_459 (fun H locs hW hS => ?_)
  obtain ⟨s306, e_s306⟩ : ∃ z : Mem, z = sR s304 l0 72 (gN G297 + 1) := ⟨_, rfl⟩
  replace h := h s306 e_s306
  replace hW : Wd G303 D tc b0 s306 H := by rw [e_s306]; exact hW
  refine x_aload_n C hl dX12_init_462 rfl ?_
  refine lv_sipush (v := (200 : Int32)) hx hb dX12_init_463 (by decide) ?_
  have a307 := h.1
  have a308 := h.2.1
  replace h := h.2.2
  refine x_newa C hW hS hc (atype := .int) (ty := .int) rfl (gc1 61 rfl rfl) (code := 100) (t0 := 0) (n := 200) (by decide) rfl (fun _ h => h) (by decide) (by decide) (by decide) (fun cA => con_zi (by decide) cA) (lim1 hc a307) (lim2 hc a308) dX12_init_466 (fun H hW hS hc => ?_)
  obtain ⟨G309, e_G309⟩ : ∃ z : Lay, z = gA G303 100 200 200 := ⟨_, rfl⟩
  obtain ⟨s310, e_s310⟩ : ∃ z : Mem, z = sZ s306 (gN G303 + 1) := ⟨_, rfl⟩
  replace h := h G309 e_G309 s310 e_s310
  replace hW : Wd G309 D tc b0 s310 H := by rw [e_G309, e_s310]; exact hW
  rw [← e_G309] at hc
  have t311 := h.1
  replace h := h.2
  refine x_putFR C hW hS (t := 12) (k := 73) t311 kl_12 (by decide) fl_X12_178 rfl hin rfl rfl (fun o => by cases o <;> rfl) (fun o => by cases o <;> rfl) dX12_init_468 (fun H locs hW hS => ?_)
  obtain ⟨s312, e_s312⟩ : ∃ z : Mem, z = sR s310 l0 73 (gN G303 + 1) := ⟨_, rfl⟩
  replace h := h s312 e_s312
  replace hW : Wd G309 D tc b0 s312 H := by rw [e_s312]; exact hW
  refine x_aload_n C hl dX12_init_471 rfl ?_
  refine lv_bipush (v := (60 : Int32)) hx hb dX12_init_472 (by decide) ?_
  have a313 := h.1
  have a314 := h.2.1
  replace h := h.2.2
  refine x_newa C hW hS hc (atype := .int) (ty := .int) rfl (gc1 61 rfl rfl) (code := 100) (t0 := 0) (n := 60) (by decide) rfl (fun _ h => h) (by decide) (by decide) (by decide) (fun cA => con_zi (by decide) cA) (lim1 hc a313) (lim2 hc a314) dX12_init_474 (fun H hW hS hc => ?_)
  obtain ⟨G315, e_G315⟩ : ∃ z : Lay, z = gA G309 100 60 60 := ⟨_, rfl⟩
  obtain ⟨s316, e_s316⟩ : ∃ z : Mem, z = sZ s312 (gN G309 + 1) := ⟨_, rfl⟩
  replace h := h G315 e_G315 s316 e_s316
  replace hW : Wd G315 D tc b0 s316 H := by rw [e_G315, e_s316]; exact hW
  rw [← e_G315] at hc
  have t317 := h.1
  replace h := h.2
  refine x_putFR C hW hS (t := 12) (k := 74) t317 kl_12 (by decide) fl_X12_181 rfl hin rfl rfl (fun o => by cases o <;> rfl) (fun o => by cases o <;> rfl) dX12_init_476 (fun H locs hW hS => ?_)
  obtain ⟨s318, e_s318⟩ : ∃ z : Mem, z = sR s316 l0 74 (gN G309 + 1) := ⟨_, rfl⟩
  replace h := h s318 e_s318
  replace hW : Wd G315 D tc b0 s318 H := by rw [e_s318]; exact hW
  refine x_aload_n C hl dX12_init_479 rfl ?_
  refine lv_sipush (v := (240 : Int32)) hx hb dX12_init_480 (by decide) ?_
  have a319 := h.1
  have a320 := h.2.1
  replace h := h.2.2
  refine x_newa C hW hS hc (atype := .boolean) (ty := .boolean) rfl (gc1 198 rfl rfl) (code := 102) (t0 := 2) (n := 240) (by decide) rfl (fun _ h => h) (by decide) (by decide) (by decide) (fun cA => con_zi (by decide) cA) (lim1 hc a319) (lim2 hc a320) dX12_init_483 (fun H hW hS hc => ?_)
  obtain ⟨G321, e_G321⟩ : ∃ z : Lay, z = gA G315 102 240 240 := ⟨_, rfl⟩
  obtain ⟨s322, e_s322⟩ : ∃ z : Mem, z = sZ s318 (gN G315 + 1) := ⟨_, rfl⟩
  replace h := h G321 e_G321 s322 e_s322
  replace hW : Wd G321 D tc b0 s322 H := by rw [e_G321, e_s322]; exact hW
  rw [← e_G321] at hc
  have t323 := h.1
  replace h := h.2
  refine x_putFR C hW hS (t := 12) (k := 76) t323 kl_12 (by decide) fl_X12_184 rfl hin rfl rfl (fun o => by cases o <;> rfl) (fun o => by cases o <;> rfl) dX12_init_485 (fun H locs hW hS => ?_)
  obtain ⟨s324, e_s324⟩ : ∃ z : Mem, z = sR s322 l0 76 (gN G315 + 1) := ⟨_, rfl⟩
  replace h := h s324 e_s324
  replace hW : Wd G321 D tc b0 s324 H := by rw [e_s324]; exact hW
  refine x_aload_n C hl dX12_init_488 rfl ?_
  refine lv_sipush (v := (3840 : Int32)) hx hb dX12_init_489 (by decide) ?_
  have a325 := h.1
  have a326 := h.2.1
  replace h := h.2.2
  refine x_newa C hW hS hc (atype := .boolean) (ty := .boolean) rfl (gc1 198 rfl rfl) (code := 102) (t0 := 2) (n := 3840) (by decide) rfl (fun _ h => h) (by decide) (by decide) (by decide) (fun cA => con_zi (by decide) cA) (lim1 hc a325) (lim2 hc a326) dX12_init_492 (fun H hW hS hc => ?_)
  obtain ⟨G327, e_G327⟩ : ∃ z : Lay, z = gA G321 102 3840 3840 := ⟨_, rfl⟩
  obtain ⟨s328, e_s328⟩ : ∃ z : Mem, z = sZ s324 (gN G321 + 1) := ⟨_, rfl⟩
  replace h := h G327 e_G327 s328 e_s328
  replace hW : Wd G327 D tc b0 s328 H := by rw [e_G327, e_s328]; exact hW
  rw [← e_G327] at hc
  have t329 := h.1
  replace h := h.2
  refine x_putFR C hW hS (t := 12) (k := 77) t329 kl_12 (by decide) fl_X12_187 rfl hin rfl rfl (fun o => by cases o <;> rfl) (fun o => by cases o <;> rfl) dX12_init_494 (fun H locs hW hS => ?_)
  obtain ⟨s330, e_s330⟩ : ∃ z : Mem, z = sR s328 l0 77 (gN G321 + 1) := ⟨_, rfl⟩
  replace h := h s330 e_s330
  replace hW : Wd G327 D tc b0 s330 H := by rw [e_s330]; exact hW
  refine x_aload_n C hl dX12_init_497 rfl ?_
  refine lv_bipush (v := (16 : Int32)) hx hb dX12_init_498 (by decide) ?_
  have a331 := h.1
  have a332 := h.2.1
  replace h := h.2.2
  refine x_newa C hW hS hc (atype := .int) (ty := .int) rfl (gc1 61 rfl rfl) (code := 100) (t0 := 0) (n := 16) (by decide) rfl (fun _ h => h) (by decide) (by decide) (by decide) (fun cA => con_zi (by decide) cA) (lim1 hc a331) (lim2 hc a332) dX12_init_500 (fun H hW hS hc => ?_)
  obtain ⟨G333, e_G333⟩ : ∃ z : Lay, z = gA G327 100 16 16 := ⟨_, rfl⟩
  obtain ⟨s334, e_s334⟩ : ∃ z : Mem, z = sZ s330 (gN G327 + 1) := ⟨_, rfl⟩
  replace h := h G333 e_G333 s334 e_s334
  replace hW : Wd G333 D tc b0 s334 H := by rw [e_G333, e_s334]; exact hW
  rw [← e_G333] at hc
  have t335 := h.1
  replace h := h.2
  refine x_putFR C hW hS (t := 12) (k := 78) t335 kl_12 (by decide) fl_X12_190 rfl hin rfl rfl (fun o => by cases o <;> rfl) (fun o => by cases o <;> rfl) dX12_init_502 (fun H locs hW hS => ?_)
  obtain ⟨s336, e_s336⟩ : ∃ z : Mem, z = sR s334 l0 78 (gN G327 + 1) := ⟨_, rfl⟩
  replace h := h s336 e_s336
  replace hW : Wd G333 D tc b0 s336 H := by rw [e_s336]; exact hW
  refine x_aload_n C hl dX12_init_505 rfl ?_
  refine lv_sipush (v := (240 : Int32)) hx hb dX12_init_506 (by decide) ?_
  have a337 := h.1
  have a338 := h.2.1
  replace h := h.2.2
  refine x_newa C hW hS hc (atype := .boolean) (ty := .boolean) rfl (gc1 198 rfl rfl) (code := 102) (t0 := 2) (n := 240) (by decide) rfl (fun _ h => h) (by decide) (by decide) (by decide) (fun cA => con_zi (by decide) cA) (lim1 hc a337) (lim2 hc a338) dX12_init_509 (fun H hW hS hc => ?_)
  obtain ⟨G339, e_G339⟩ : ∃ z : Lay, z = gA G333 102 240 240 := ⟨_, rfl⟩
  obtain ⟨s340, e_s340⟩ : ∃ z : Mem, z = sZ s336 (gN G333 + 1) := ⟨_, rfl⟩
  replace h := h G339 e_G339 s340 e_s340
  replace hW : Wd G339 D tc b0 s340 H := by rw [e_G339, e_s340]; exact hW
  rw [← e_G339] at hc
  have t341 := h.1
  replace h := h.2
  refine x_putFR C hW hS (t := 12) (k := 79) t341 kl_12 (by decide) fl_X12_193 rfl hin rfl rfl (fun o => by cases o <;> rfl) (fun o => by cases o <;> rfl) dX12_init_511 (fun H locs hW hS => ?_)
  obtain ⟨s342, e_s342⟩ : ∃ z : Mem, z = sR s340 l0 79 (gN G333 + 1) := ⟨_, rfl⟩
  replace h := h s342 e_s342
  replace hW : Wd G339 D tc b0 s342 H := by rw [e_s342]; exact hW
  refine x_aload_n C hl dX12_init_514 rfl ?_
  refine lv_sipush (v := (3200 : Int32)) hx hb dX12_init_515 (by decide) ?_
  have a343 := h.1
  have a344 := h.2.1
  replace h := h.2.2
  refine x_newa C hW hS hc (atype := .int) (ty := .int) rfl (gc1 61 rfl rfl) (code := 100) (t0 := 0) (n := 3200) (by decide) rfl (fun _ h => h) (by decide) (by decide) (by decide) (fun cA => con_zi (by decide) cA) (lim1 hc a343) (lim2 hc a344) dX12_init_518 (fun H hW hS hc => ?_)
  obtain ⟨G345, e_G345⟩ : ∃ z : Lay, z = gA G339 100 3200 3200 := ⟨_, rfl⟩
  obtain ⟨s346, e_s346⟩ : ∃ z : Mem, z = sZ s342 (gN G339 + 1) := ⟨_, rfl⟩
  replace h := h G345 e_G345 s346 e_s346
  replace hW : Wd G345 D tc b0 s346 H := by rw [e_G345, e_s346]; exact hW
  rw [← e_G345] at hc
  have t347 := h.1
  replace h := h.2
  refine x_putFR C hW hS (t := 12) (k := 81) t347 kl_12 (by decide) fl_X12_196 rfl hin rfl rfl (fun o => by cases o <;> rfl) (fun o => by cases o <;> rfl) dX12_init_520 (fun H locs hW hS => ?_)
  obtain ⟨s348, e_s348⟩ : ∃ z : Mem, z = sR s346 l0 81 (gN G339 + 1) := ⟨_, rfl⟩
  replace h := h s348 e_s348
  replace hW : Wd G345 D tc b0 s348 H := by rw [e_s348]; exact hW
  refine x_aload_n C hl dX12_init_523 rfl ?_
  refine lv_sipush (v := (3200 : Int32)) hx hb dX12_init_524 (by decide) ?_
  have a349 := h.1
  have a350 := h.2.1
  replace h := h.2.2
  refine x_newa C hW hS hc (atype := .int) (ty := .int) rfl (gc1 61 rfl rfl) (code := 100) (t0 := 0) (n := 3200) (by decide) rfl (fun _ h => h) (by decide) (by decide) (by decide) (fun cA => con_zi (by decide) cA) (lim1 hc a349) (lim2 hc a350) dX12_init_527 (fun H hW hS hc => ?_)
  obtain ⟨G351, e_G351⟩ : ∃ z : Lay, z = gA G345 100 3200 3200 := ⟨_, rfl⟩
  obtain ⟨s352, e_s352⟩ : ∃ z : Mem, z = sZ s348 (gN G345 + 1) := ⟨_, rfl⟩
  replace h := h G351 e_G351 s352 e_s352
  replace hW : Wd G351 D tc b0 s352 H := by rw [e_G351, e_s352]; exact hW
  rw [← e_G351] at hc
  have t353 := h.1
  replace h := h.2
  refine x_putFR C hW hS (t := 12) (k := 82) t353 kl_12 (by decide) fl_X12_199 rfl hin rfl rfl (fun o => by cases o <;> rfl) (fun o => by cases o <;> rfl) dX12_init_529 (fun H locs hW hS => ?_)
  obtain ⟨s354, e_s354⟩ : ∃ z : Mem, z = sR s352 l0 82 (gN G345 + 1) := ⟨_, rfl⟩
  replace h := h s354 e_s354
  replace hW : Wd G351 D tc b0 s354 H := by rw [e_s354]; exact hW
  refine x_aload_n C hl dX12_init_532 rfl ?_
  refine lv_sipush (v := (3200 : Int32)) hx hb dX12_init_533 (by decide) ?_
  have a355 := h.1
  have a356 := h.2.1
  replace h := h.2.2
  refine x_newa C hW hS hc (atype := .int) (ty := .int) rfl (gc1 61 rfl rfl) (code := 100) (t0 := 0) (n := 3200) (by decide) rfl (fun _ h => h) (by decide) (by decide) (by decide) (fun cA => con_zi (by decide) cA) (lim1 hc a355) (lim2 hc a356) dX12_init_536 (fun H hW hS hc => ?_)
  obtain ⟨G357, e_G357⟩ : ∃ z : Lay, z = gA G351 100 3200 3200 := ⟨_, rfl⟩
  obtain ⟨s358, e_s358⟩ : ∃ z : Mem, z = sZ s354 (gN G351 + 1) := ⟨_, rfl⟩
  replace h := h G357 e_G357 s358 e_s358
  replace hW : Wd G357 D tc b0 s358 H := by rw [e_G357, e_s358]; exact hW
  rw [← e_G357] at hc
  have t359 := h.1
  replace h := h.2
  refine x_putFR C hW hS (t := 12) (k := 83) t359 kl_12 (by decide) fl_X12_202 rfl hin rfl rfl (fun o => by cases o <;> rfl) (fun o => by cases o <;> rfl) dX12_init_538 (fun H locs hW hS => ?_)
  obtain ⟨s360, e_s360⟩ : ∃ z : Mem, z = sR s358 l0 83 (gN G351 + 1) := ⟨_, rfl⟩
  replace h := h s360 e_s360
  replace hW : Wd G357 D tc b0 s360 H := by rw [e_s360]; exact hW
  refine x_aload_n C hl dX12_init_541 rfl ?_
  refine lv_sipush (v := (3200 : Int32)) hx hb dX12_init_542 (by decide) ?_
  have a361 := h.1
  have a362 := h.2.1
  replace h := h.2.2
  refine x_newa C hW hS hc (atype := .int) (ty := .int) rfl (gc1 61 rfl rfl) (code := 100) (t0 := 0) (n := 3200) (by decide) rfl (fun _ h => h) (by decide) (by decide) (by decide) (fun cA => con_zi (by decide) cA) (lim1 hc a361) (lim2 hc a362) dX12_init_545 (fun H hW hS hc => ?_)
  obtain ⟨G363, e_G363⟩ : ∃ z : Lay, z = gA G357 100 3200 3200 := ⟨_, rfl⟩
  obtain ⟨s364, e_s364⟩ : ∃ z : Mem, z = sZ s360 (gN G357 + 1) := ⟨_, rfl⟩
  replace h := h G363 e_G363 s364 e_s364
  replace hW : Wd G363 D tc b0 s364 H := by rw [e_G363, e_s364]; exact hW
  rw [← e_G363] at hc
  have t365 := h.1
  replace h := h.2
  refine x_putFR C hW hS (t := 12) (k := 84) t365 kl_12 (by decide) fl_X12_205 rfl hin rfl rfl (fun o => by cases o <;> rfl) (fun o => by cases o <;> rfl) dX12_init_547 (fun H locs hW hS => ?_)
  obtain ⟨s366, e_s366⟩ : ∃ z : Mem, z = sR s364 l0 84 (gN G357 + 1) := ⟨_, rfl⟩
  replace h := h s366 e_s366
  replace hW : Wd G363 D tc b0 s366 H := by rw [e_s366]; exact hW
  refine x_aload_n C hl dX12_init_550 rfl ?_
  refine lv_sipush (v := (3200 : Int32)) hx hb dX12_init_551 (by decide) ?_
  have a367 := h.1
  have a368 := h.2.1
  replace h := h.2.2
  refine x_newa C hW hS hc (atype := .int) (ty := .int) rfl (gc1 61 rfl rfl) (code := 100) (t0 := 0) (n := 3200) (by decide) rfl (fun _ h => h) (by decide) (by decide) (by decide) (fun cA => con_zi (by decide) cA) (lim1 hc a367) (lim2 hc a368) dX12_init_554 (fun H hW hS hc => ?_)
  obtain ⟨G369, e_G369⟩ : ∃ z : Lay, z = gA G363 100 3200 3200 := ⟨_, rfl⟩
  obtain ⟨s370, e_s370⟩ : ∃ z : Mem, z = sZ s366 (gN G363 + 1) := ⟨_, rfl⟩
  replace h := h G369 e_G369 s370 e_s370
  replace hW : Wd G369 D tc b0 s370 H := by rw [e_G369, e_s370]; exact hW
  rw [← e_G369] at hc
  have t371 := h.1
  replace h := h.2
  refine x_putFR C hW hS (t := 12) (k := 85) t371 kl_12 (by decide) fl_X12_208 rfl hin rfl rfl (fun o => by cases o <;> rfl) (fun o => by cases o <;> rfl) dX12_init_556 (fun H locs hW hS => ?_)
  obtain ⟨s372, e_s372⟩ : ∃ z : Mem, z = sR s370 l0 85 (gN G363 + 1) := ⟨_, rfl⟩
  replace h := h s372 e_s372
  replace hW : Wd G369 D tc b0 s372 H := by rw [e_s372]; exact hW
  refine x_aload_n C hl dX12_init_559 rfl ?_
  refine lv_sipush (v := (3200 : Int32)) hx hb dX12_init_560 (by decide) ?_
  have a373 := h.1
  have a374 := h.2.1
  replace h := h.2.2
  refine x_newa C hW hS hc (atype := .int) (ty := .int) rfl (gc1 61 rfl rfl) (code := 100) (t0 := 0) (n := 3200) (by decide) rfl (fun _ h => h) (by decide) (by decide) (by decide) (fun cA => con_zi (by decide) cA) (lim1 hc a373) (lim2 hc a374) dX12_init_563 (fun H hW hS hc => ?_)
  obtain ⟨G375, e_G375⟩ : ∃ z : Lay, z = gA G369 100 3200 3200 := ⟨_, rfl⟩
  obtain ⟨s376, e_s376⟩ : ∃ z : Mem, z = sZ s372 (gN G369 + 1) := ⟨_, rfl⟩
  replace h := h G375 e_G375 s376 e_s376
  replace hW : Wd G375 D tc b0 s376 H := by rw [e_G375, e_s376]; exact hW
  rw [← e_G375] at hc
  have t377 := h.1
  replace h := h.2
  refine x_putFR C hW hS (t := 12) (k := 86) t377 kl_12 (by decide) fl_X12_211 rfl hin rfl rfl (fun o => by cases o <;> rfl) (fun o => by cases o <;> rfl) dX12_init_565 (fun H locs hW hS => ?_)
  obtain ⟨s378, e_s378⟩ : ∃ z : Mem, z = sR s376 l0 86 (gN G369 + 1) := ⟨_, rfl⟩
  replace h := h s378 e_s378
  replace hW : Wd G375 D tc b0 s378 H := by rw [e_s378]; exact hW
  refine x_aload_n C hl dX12_init_568 rfl ?_
  refine lv_bipush (v := (60 : Int32)) hx hb dX12_init_569 (by decide) ?_
  have a379 := h.1
  have a380 := h.2.1
  replace h := h.2.2
  refine x_newa C hW hS hc (atype := .int) (ty := .int) rfl (gc1 61 rfl rfl) (code := 100) (t0 := 0) (n := 60) (by decide) rfl (fun _ h => h) (by decide) (by decide) (by decide) (fun cA => con_zi (by decide) cA) (lim1 hc a379) (lim2 hc a380) dX12_init_571 (fun H hW hS hc => ?_)
  obtain ⟨G381, e_G381⟩ : ∃ z : Lay, z = gA G375 100 60 60 := ⟨_, rfl⟩
  obtain ⟨s382, e_s382⟩ : ∃ z : Mem, z = sZ s378 (gN G375 + 1) := ⟨_, rfl⟩
  replace h := h G381 e_G381 s382 e_s382
  replace hW : Wd G381 D tc b0 s382 H := by rw [e_G381, e_s382]; exact hW
  rw [← e_G381] at hc
  have t383 := h.1
  replace h := h.2
  refine x_putFR C hW hS (t := 12) (k := 91) t383 kl_12 (by decide) fl_X12_214 rfl hin rfl rfl (fun o => by cases o <;> rfl) (fun o => by cases o <;> rfl) dX12_init_573 (fun H locs hW hS => ?_)
  obtain ⟨s384, e_s384⟩ : ∃ z : Mem, z = sR s382 l0 91 (gN G375 + 1) := ⟨_, rfl⟩
  replace h := h s384 e_s384
  replace hW : Wd G381 D tc b0 s384 H := by rw [e_s384]; exact hW
  refine x_aload_n C hl dX12_init_576 rfl ?_
  refine lv_sipush (v := (3200 : Int32)) hx hb dX12_init_577 (by decide) ?_
  have a385 := h.1
  have a386 := h.2.1
  replace h := h.2.2
  refine x_newa C hW hS hc (atype := .int) (ty := .int) rfl (gc1 61 rfl rfl) (code := 100) (t0 := 0) (n := 3200) (by decide) rfl (fun _ h => h) (by decide) (by decide) (by decide) (fun cA => con_zi (by decide) cA) (lim1 hc a385) (lim2 hc a386) dX12_init_580 (fun H hW hS hc => ?_)
  obtain ⟨G387, e_G387⟩ : ∃ z : Lay, z = gA G381 100 3200 3200 := ⟨_, rfl⟩
  obtain ⟨s388, e_s388⟩ : ∃ z : Mem, z = sZ s384 (gN G381 + 1) := ⟨_, rfl⟩
  replace h := h G387 e_G387 s388 e_s388
  replace hW : Wd G387 D tc b0 s388 H := by rw [e_G387, e_s388]; exact hW
  rw [← e_G387] at hc
  have t389 := h.1
  replace h := h.2
  refine x_putFR C hW hS (t := 12) (k := 92) t389 kl_12 (by decide) fl_X12_217 rfl hin rfl rfl (fun o => by cases o <;> rfl) (fun o => by cases o <;> rfl) dX12_init_582 (fun H locs hW hS => ?_)
  obtain ⟨s390, e_s390⟩ : ∃ z : Mem, z = sR s388 l0 92 (gN G381 + 1) := ⟨_, rfl⟩
  replace h := h s390 e_s390
  replace hW : Wd G387 D tc b0 s390 H := by rw [e_s390]; exact hW
  refine x_aload_n C hl dX12_init_585 rfl ?_
  refine lv_sipush (v := (3200 : Int32)) hx hb dX12_init_586 (by decide) ?_
  have a391 := h.1
  have a392 := h.2.1
  replace h := h.2.2
  refine x_newa C hW hS hc (atype := .int) (ty := .int) rfl (gc1 61 rfl rfl) (code := 100) (t0 := 0) (n := 3200) (by decide) rfl (fun _ h => h) (by decide) (by decide) (by decide) (fun cA => con_zi (by decide) cA) (lim1 hc a391) (lim2 hc a392) dX12_init_589 (fun H hW hS hc => ?_)
  obtain ⟨G393, e_G393⟩ : ∃ z : Lay, z = gA G387 100 3200 3200 := ⟨_, rfl⟩
  obtain ⟨s394, e_s394⟩ : ∃ z : Mem, z = sZ s390 (gN G387 + 1) := ⟨_, rfl⟩
  replace h := h G393 e_G393 s394 e_s394
  replace hW : Wd G393 D tc b0 s394 H := by rw [e_G393, e_s394]; exact hW
  rw [← e_G393] at hc
  have t395 := h.1
  replace h := h.2
  refine x_putFR C hW hS (t := 12) (k := 94) t395 kl_12 (by decide) fl_X12_220 rfl hin rfl rfl (fun o => by cases o <;> rfl) (fun o => by cases o <;> rfl) dX12_init_591 (fun H locs hW hS => ?_)
  obtain ⟨s396, e_s396⟩ : ∃ z : Mem, z = sR s394 l0 94 (gN G387 + 1) := ⟨_, rfl⟩
  replace h := h s396 e_s396
  replace hW : Wd G393 D tc b0 s396 H := by rw [e_s396]; exact hW
  exact r_c C hr hW hS hc h.1 h.2.1 h.2.2 dX12_init_594
theorem T_X12_init (l : Launch) {D : va_G} {tc : Nat → ClassId} {b0 : Nat} (l0 : Nat) (G : Lay) (σ : Mem) (Qx : Lay → Mem → Prop) (h : X_X12_init Qx l0 G σ) : MC l yX12_init cX12_init 1 rm_X12_init G D tc b0 [rv b0 l0] σ 65 80578 Qx :=
  x_entryC (y := yX12_init) [.inr (.inr l0)] 0 (by decide) (Nat.le_of_ble_eq_true rfl) rfl (fun p e s m args below meth c ls C hr hin hN hW hc hl => t_X12_init_0 C hr hin hN va_S.rf hW hl hc h)
