/-! X6_isOf -/
set_option maxRecDepth 20000 in
set_option maxHeartbeats 4000000 in
theorem t_X6_isOf_47 {p : Program} {l : Launch} {e : Env} {s : State} {m : MethodId} {args : Array Value} {below : List Frame} {meth : Method} {c : Code} {H : Heap} {locs : List Loc} {D : va_G} {tc : Nat → ClassId} {b0 : Nat} {ls : Array Slot} {G : Lay} {Qx : Int32 → Mem → Prop}   {σ : Mem} (C : Cx p s m args meth c cX6_isOf RX6 5 D tc b0) (hr : meth.sig.returnType = (some FieldType.boolean)) (hS : va_S (AA b0) s.heap H locs) (hW : Wd G D tc b0 σ H) (hl : hL b0 ls 5 [none, none, none, none, none]) (h : X_X6_isOf_47 G Qx   σ) : W p l e rm_X6_isOf s m args below meth c H locs 0 0 (MQ below (va_Qi Qx (fun u t => Pw G D tc b0 u t) (AA b0)) args s 0 0 (AA b0)) (F0 m 47 ls []) := by
  have hx := C.1
  have hb := C.2.1
  unfold X_X6_isOf_47 at h
  refine lv_iconst (v := (0 : Int32)) hx hb dX6_isOf_47 (by decide) ?_
  exact r_z C hr hW hS h.1 h.2 dX6_isOf_48
set_option maxRecDepth 20000 in
set_option maxHeartbeats 4000000 in
theorem t_X6_isOf_5_n {p : Program} {l : Launch} {e : Env} {s : State} {m : MethodId} {args : Array Value} {below : List Frame} {meth : Method} {c : Code} {D : va_G} {tc : Nat → ClassId} {b0 : Nat} {G : Lay} {Qx : Int32 → Mem → Prop} {l0 : Nat} {l2 : Int32} (C : Cx p s m args meth c cX6_isOf RX6 5 D tc b0) (hr : meth.sig.returnType = (some FieldType.boolean)) (n : Nat) : ∀ (l3 : Int32) (l4 : Int32) (σ : Mem) (H : Heap) (locs : List Loc) (ls : Array Slot), va_S (AA b0) s.heap H locs → Wd G D tc b0 σ H → hL b0 ls 5 [some (.inr (.inr l0)), none, some (.inl l2), some (.inl l3), some (.inl l4)] → Lp (X_X6_isOf_5_s G Qx l0 l2) n (l3, l4, σ) → W p l e rm_X6_isOf s m args below meth c H locs 0 0 (MQ below (va_Qi Qx (fun u t => Pw G D tc b0 u t) (AA b0)) args s 0 0 (AA b0)) (F0 m 5 ls []) := by
  have hx := C.1
  have hb := C.2.1
  induction n with
  | zero => intro l3 l4 σ H locs ls hS hW hl h; exact False.elim h
  | succ n hK5 =>
    intro l3 l4 σ H locs ls hS hW hl h
    replace h : X_X6_isOf_5_s G Qx l0 l2 (Lp (X_X6_isOf_5_s G Qx l0 l2) n) (l3, l4, σ) := h
    unfold X_X6_isOf_5_s at h
    refine x_iload C hl dX6_isOf_5 rfl ?_
    refine lv_bipush (v := (12 : Int32)) hx hb dX6_isOf_7 (by decide) ?_
    refine lv_icmp_ge hx hb dX6_isOf_9 (tgt := 47) rfl (fun hc => ?_) (fun hc => ?_)
    · replace h := h.1 hc
      exact t_X6_isOf_47 C hr hS hW (hl.keep [false, false, false, false, false] rfl) h
    · replace h := h.2 hc
      refine x_iload_n C hl dX6_isOf_12 rfl ?_
      refine lv_if_lt hx hb dX6_isOf_13 (tgt := 47) rfl (fun hc => ?_) (fun hc => ?_)
      · replace h := h.1 hc
        exact t_X6_isOf_47 C hr hS hW (hl.keep [false, false, false, false, false] rfl) h
      · replace h := h.2 hc
        refine x_iload_n C hl dX6_isOf_16 rfl ?_
        refine x_aload_n C hl dX6_isOf_17 rfl ?_
        have t1 := h.1
        replace h := h.2
        refine x_get C hW (t := 6) (k := 0) t1 kl_6 (by decide) fl_X6_29 (v := .int (mI σ l0 0)) rfl dX6_isOf_18 ?_
        refine lv_icmp_ge hx hb dX6_isOf_21 (tgt := 47) rfl (fun hc => ?_) (fun hc => ?_)
        · replace h := h.1 hc
          exact t_X6_isOf_47 C hr hS hW (hl.keep [false, false, false, false, false] rfl) h
        · replace h := h.2 hc
          refine x_iload_n C hl dX6_isOf_24 rfl ?_
          refine x_iload_n C hl dX6_isOf_25 rfl ?_
          refine lv_icmp_ne hx hb dX6_isOf_26 (tgt := 31) rfl (fun hc => ?_) (fun hc => ?_)
          · replace h := h.2 hc
            refine x_aload_n C hl dX6_isOf_31 rfl ?_
            refine x_get C hW (t := 6) (k := 1) t1 kl_6 (by decide) fl_X6_11 (v := rv b0 (mR σ l0 1)) rfl dX6_isOf_32 ?_
            refine x_iload_n C hl dX6_isOf_35 rfl ?_
            have t2 := h.1
            replace h := h.2
            have v3 := h.1
            replace h := h.2
            refine x_aald C hW (t := 103) (t0 := 4) t2 (by decide) rfl v3 dX6_isOf_36 ?_
            have t4 := h.1
            replace h := h.2
            refine x_get C hW (t := 1) (k := 1) t4 kl_1 (by decide) fl_X6_60 (v := .int (mI σ (mR σ (mR σ l0 1) l3.toNatClampNeg) 1)) rfl dX6_isOf_37 ?_
            refine x_istore_n C hl dX6_isOf_40 (by decide) rfl (fun ls hl => ?_)
            refine x_iinc C hl dX6_isOf_41 rfl (v := (1 : Int32)) (by decide) (by decide) rfl (fun ls hl => ?_)
            refine lv_goto hx hb dX6_isOf_44 (tgt := 5) rfl ?_
            exact hK5 _ _ _ _ _ _ hS hW (hl.keep [true, false, true, true, true] rfl) h
          · replace h := h.1 hc
            refine lv_iconst (v := (1 : Int32)) hx hb dX6_isOf_29 (by decide) ?_
            exact r_z C hr hW hS h.1 h.2 dX6_isOf_30
set_option maxRecDepth 20000 in
set_option maxHeartbeats 4000000 in
theorem t_X6_isOf_5 {p : Program} {l : Launch} {e : Env} {s : State} {m : MethodId} {args : Array Value} {below : List Frame} {meth : Method} {c : Code} {H : Heap} {locs : List Loc} {D : va_G} {tc : Nat → ClassId} {b0 : Nat} {ls : Array Slot} {G : Lay} {Qx : Int32 → Mem → Prop} {l0 : Nat} {l2 : Int32} {l3 : Int32} {l4 : Int32}  {σ : Mem} (C : Cx p s m args meth c cX6_isOf RX6 5 D tc b0) (hr : meth.sig.returnType = (some FieldType.boolean)) (hS : va_S (AA b0) s.heap H locs) (hW : Wd G D tc b0 σ H) (hl : hL b0 ls 5 [some (.inr (.inr l0)), none, some (.inl l2), some (.inl l3), some (.inl l4)]) (h : X_X6_isOf_5 G Qx l0 l2 l3 l4 σ) : W p l e rm_X6_isOf s m args below meth c H locs 0 0 (MQ below (va_Qi Qx (fun u t => Pw G D tc b0 u t) (AA b0)) args s 0 0 (AA b0)) (F0 m 5 ls []) := by
  obtain ⟨n, h⟩ := h
  exact t_X6_isOf_5_n C hr n l3 l4 σ H locs ls hS hW hl h
set_option maxRecDepth 20000 in
set_option maxHeartbeats 4000000 in
theorem t_X6_isOf_0 {p : Program} {l : Launch} {e : Env} {s : State} {m : MethodId} {args : Array Value} {below : List Frame} {meth : Method} {c : Code} {H : Heap} {locs : List Loc} {D : va_G} {tc : Nat → ClassId} {b0 : Nat} {ls : Array Slot} {G : Lay} {Qx : Int32 → Mem → Prop} {l0 : Nat} {l1 : Int32} {l2 : Int32}  {σ : Mem} (C : Cx p s m args meth c cX6_isOf RX6 5 D tc b0) (hr : meth.sig.returnType = (some FieldType.boolean)) (hS : va_S (AA b0) s.heap H locs) (hW : Wd G D tc b0 σ H) (hl : hL b0 ls 5 [some (.inr (.inr l0)), some (.inl l1), some (.inl l2), none, none]) (h : X_X6_isOf_0 G Qx l0 l1 l2  σ) : W p l e rm_X6_isOf s m args below meth c H locs 0 0 (MQ below (va_Qi Qx (fun u t => Pw G D tc b0 u t) (AA b0)) args s 0 0 (AA b0)) (F0 m 0 ls []) := by
  have hx := C.1
  have hb := C.2.1
  unfold X_X6_isOf_0 at h
  refine x_iload_n C hl dX6_isOf_0 rfl ?_
  refine x_istore_n C hl dX6_isOf_1 (by decide) rfl (fun ls hl => ?_)
  refine lv_iconst (v := (0 : Int32)) hx hb dX6_isOf_2 (by decide) ?_
  refine x_istore C hl dX6_isOf_3 (by decide) rfl (fun ls hl => ?_)
  exact t_X6_isOf_5 C hr hS hW (hl.keep [true, false, true, true, true] rfl) h
theorem T_X6_isOf (l : Launch) {G : Lay} {D : va_G} {tc : Nat → ClassId} {b0 : Nat} (l0 : Nat) (l1 : Int32) (l2 : Int32) (σ : Mem) (Qx : Int32 → Mem → Prop) (h : X_X6_isOf G Qx l0 l1 l2 σ) : MI l yX6_isOf cX6_isOf 5 ((some FieldType.boolean)) rm_X6_isOf G D tc b0 [rv b0 l0, .int l1, .int l2] σ Qx :=
  x_entry (y := yX6_isOf) [.inr (.inr l0), .inl l1, .inl l2] 2 (by decide) (Nat.le_of_ble_eq_true rfl) (fun p e s m args below meth c ls C hr hW hl => t_X6_isOf_0 C hr va_S.rf hW (hl.keep [true, true, true, false, false] rfl) h)
/-! X0_findBy -/
set_option maxRecDepth 20000 in
set_option maxHeartbeats 4000000 in
theorem t_X0_findBy_59 {p : Program} {l : Launch} {e : Env} {s : State} {m : MethodId} {args : Array Value} {below : List Frame} {meth : Method} {c : Code} {H : Heap} {locs : List Loc} {D : va_G} {tc : Nat → ClassId} {b0 : Nat} {ls : Array Slot} {G : Lay} {Qx : Int32 → Mem → Prop}   {σ : Mem} (C : Cx p s m args meth c cX0_findBy RX0 4 D tc b0) (hr : meth.sig.returnType = (some FieldType.boolean)) (hS : va_S (AA b0) s.heap H locs) (hW : Wd G D tc b0 σ H) (hl : hL b0 ls 4 [none, none, none, none]) (h : X_X0_findBy_59 G Qx   σ) : W p l e rm_X0_findBy s m args below meth c H locs 0 0 (MQ below (va_Qi Qx (fun u t => Pw G D tc b0 u t) (AA b0)) args s 0 0 (AA b0)) (F0 m 59 ls []) := by
  have hx := C.1
  have hb := C.2.1
  unfold X_X0_findBy_59 at h
  refine lv_iconst (v := (0 : Int32)) hx hb dX0_findBy_59 (by decide) ?_
  exact r_z C hr hW hS h.1 h.2 dX0_findBy_60
set_option maxRecDepth 20000 in
set_option maxHeartbeats 4000000 in
theorem t_X0_findBy_0 {p : Program} {l : Launch} {e : Env} {s : State} {m : MethodId} {args : Array Value} {below : List Frame} {meth : Method} {c : Code} {H : Heap} {locs : List Loc} {D : va_G} {tc : Nat → ClassId} {b0 : Nat} {ls : Array Slot} {G : Lay} {Qx : Int32 → Mem → Prop} {l0 : Nat} {l1 : Nat}  {σ : Mem} (C : Cx p s m args meth c cX0_findBy RX0 4 D tc b0) (hr : meth.sig.returnType = (some FieldType.boolean)) (hS : va_S (AA b0) s.heap H locs) (hW : Wd G D tc b0 σ H) (hl : hL b0 ls 4 [some (.inr (.inr l0)), some (.inr (.inr l1)), none, none]) (h : X_X0_findBy_0 G Qx l0 l1  σ) : W p l e rm_X0_findBy s m args below meth c H locs 0 0 (MQ below (va_Qi Qx (fun u t => Pw G D tc b0 u t) (AA b0)) args s 0 0 (AA b0)) (F0 m 0 ls []) := by
  have hx := C.1
  have hb := C.2.1
  unfold X_X0_findBy_0 at h
  refine x_aload_n C hl dX0_findBy_0 rfl ?_
  have t1 := h.1
  replace h := h.2
  refine x_get C hW (t := 0) (k := 1) t1 kl_0 (by decide) fl_X0_15 (v := rv b0 (mR σ l0 1)) rfl dX0_findBy_1 ?_
  refine x_aload_n C hl dX0_findBy_4 rfl ?_
  have t2 := h.1
  replace h := h.2
  refine x_get C hW (t := 2) (k := 8) t2 kl_2 (by decide) fl_X0_256 (v := .int (mI σ l1 8)) rfl dX0_findBy_5 ?_
  refine x_aload_n C hl dX0_findBy_8 rfl ?_
  refine x_get C hW (t := 2) (k := 9) t2 kl_2 (by decide) fl_X0_228 (v := .long (mJ σ l1 9)) rfl dX0_findBy_9 ?_
  have t3 := h.1
  replace h := h.2
  refine y_i (x_run (As := [.int (mI σ l1 8), .long (mJ σ l1 9)]) C hW hS (T_X6_memberNamed l (mR σ l0 1) (mI σ l1 8) (mJ σ l1 9) σ _ h) t3 kl_6 (CW.of yv_X6_memberNamed ml_X0_266) ⟨rfl, rfl, ⟨by decide, by decide⟩, by decide, by decide⟩ rfl hl.1 rfl (by decide) dX0_findBy_12) hS (fun w5 s4 H locs h hW hS => ?_)
  refine x_istore_n C hl dX0_findBy_15 (by decide) rfl (fun ls hl => ?_)
  refine x_aload_n C hl dX0_findBy_16 rfl ?_
  refine x_get C hW (t := 0) (k := 1) t1 kl_0 (by decide) fl_X0_15 (v := rv b0 (mR s4 l0 1)) rfl dX0_findBy_17 ?_
  refine x_aload_n C hl dX0_findBy_20 rfl ?_
  refine x_get C hW (t := 2) (k := 8) t2 kl_2 (by decide) fl_X0_256 (v := .int (mI s4 l1 8)) rfl dX0_findBy_21 ?_
  refine x_iload_n C hl dX0_findBy_24 rfl ?_
  have t6 := h.1
  replace h := h.2
  refine y_r (x_run (As := [.int (mI s4 l1 8), .int w5]) C hW hS (T_X6_memberAt l (mR s4 l0 1) (mI s4 l1 8) w5 s4 _ h) t6 kl_6 (CW.of yv_X6_memberAt ml_X0_269) ⟨rfl, rfl, ⟨by decide, by decide⟩, by decide, by decide⟩ rfl hl.1 rfl (by decide) dX0_findBy_25) hS (fun w8 s7 H locs h hW hS => ?_)
  refine x_astore_n C hl dX0_findBy_28 (by decide) rfl (fun ls hl => ?_)
  refine x_aload_n C hl dX0_findBy_29 rfl ?_
  refine x_ifnull C dX0_findBy_30 (tgt := 59) rfl (fun hc => ?_) (fun hc => ?_)
  · replace h := h.1 hc
    exact t_X0_findBy_59 C hr hS hW (hl.keep [false, false, false, false] rfl) h
  · replace h := h.2 hc
    refine x_aload_n C hl dX0_findBy_33 rfl ?_
    have t9 := h.1
    replace h := h.2
    refine x_get C hW (t := 2) (k := 2) t9 kl_2 (by decide) fl_X0_132 (v := .int (mI s7 w8 2)) rfl dX0_findBy_34 ?_
    refine lv_iconst (v := (4 : Int32)) hx hb dX0_findBy_37 (by decide) ?_
    refine lv_icmp_ne hx hb dX0_findBy_38 (tgt := 59) rfl (fun hc => ?_) (fun hc => ?_)
    · replace h := h.2 hc
      exact t_X0_findBy_59 C hr hS hW (hl.keep [false, false, false, false] rfl) h
    · replace h := h.1 hc
      refine x_aload_n C hl dX0_findBy_41 rfl ?_
      refine x_get C hW (t := 0) (k := 1) t1 kl_0 (by decide) fl_X0_15 (v := rv b0 (mR s7 l0 1)) rfl dX0_findBy_42 ?_
      refine x_aload_n C hl dX0_findBy_45 rfl ?_
      refine x_get C hW (t := 2) (k := 1) t2 kl_2 (by decide) fl_X0_273 (v := .int (mI s7 l1 1)) rfl dX0_findBy_46 ?_
      refine x_aload_n C hl dX0_findBy_49 rfl ?_
      refine x_get C hW (t := 2) (k := 8) t9 kl_2 (by decide) fl_X0_256 (v := .int (mI s7 w8 8)) rfl dX0_findBy_50 ?_
      have t10 := h.1
      replace h := h.2
      refine y_i (x_run (As := [.int (mI s7 l1 1), .int (mI s7 w8 8)]) C hW hS (T_X6_isOf l (mR s7 l0 1) (mI s7 l1 1) (mI s7 w8 8) s7 _ h) t10 kl_6 (CW.of yv_X6_isOf ml_X0_276) ⟨rfl, rfl, ⟨by decide, by decide⟩, by decide, by decide⟩ rfl hl.1 rfl (by decide) dX0_findBy_53) hS (fun w12 s11 H locs h hW hS => ?_)
      refine lv_if_ne hx hb dX0_findBy_56 (tgt := 61) rfl (fun hc => ?_) (fun hc => ?_)
      · replace h := h.2 hc
        refine x_aload_n C hl dX0_findBy_61 rfl ?_
        refine x_iload_n C hl dX0_findBy_62 rfl ?_
        refine x_putI C hW hS (t := 2) (k := 11) t2 kl_2 (by decide) fl_X0_279 rfl rfl rfl rfl dX0_findBy_63 (fun H locs hW hS => ?_)
        obtain ⟨s13, e_s13⟩ : ∃ z : Mem, z = (sI s11 l1 11 w5) := ⟨_, rfl⟩
        replace h := h s13 e_s13
        replace hW : Wd G D tc b0 s13 H := by rw [e_s13]; exact hW
        refine lv_iconst (v := (1 : Int32)) hx hb dX0_findBy_66 (by decide) ?_
        exact r_z C hr hW hS h.1 h.2 dX0_findBy_67
      · replace h := h.1 hc
        exact t_X0_findBy_59 C hr hS hW (hl.keep [false, false, false, false] rfl) h
theorem T_X0_findBy (l : Launch) {G : Lay} {D : va_G} {tc : Nat → ClassId} {b0 : Nat} (l0 : Nat) (l1 : Nat) (σ : Mem) (Qx : Int32 → Mem → Prop) (h : X_X0_findBy G Qx l0 l1 σ) : MI l yX0_findBy cX0_findBy 4 ((some FieldType.boolean)) rm_X0_findBy G D tc b0 [rv b0 l0, rv b0 l1] σ Qx :=
  x_entry (y := yX0_findBy) [.inr (.inr l0), .inr (.inr l1)] 2 (by decide) (Nat.le_of_ble_eq_true rfl) (fun p e s m args below meth c ls C hr hW hl => t_X0_findBy_0 C hr va_S.rf hW (hl.keep [true, true, false, false] rfl) h)
/-! X0_checkLeads -/
set_option maxRecDepth 20000 in
set_option maxHeartbeats 4000000 in
theorem t_X0_checkLeads_80 {p : Program} {l : Launch} {e : Env} {s : State} {m : MethodId} {args : Array Value} {below : List Frame} {meth : Method} {c : Code} {H : Heap} {locs : List Loc} {D : va_G} {tc : Nat → ClassId} {b0 : Nat} {ls : Array Slot} {G : Lay} {Qx : Int32 → Mem → Prop} {l0 : Nat} {l1 : Int32}  {K2 : Int32 × Mem → Prop} {σ : Mem} (C : Cx p s m args meth c cX0_checkLeads RX0 3 D tc b0) (hr : meth.sig.returnType = (some FieldType.boolean)) (hK2 : ∀ (x1 : Int32) (σ : Mem) (H : Heap) (locs : List Loc) (ls : Array Slot), va_S (AA b0) s.heap H locs → Wd G D tc b0 σ H → hL b0 ls 3 [some (.inr (.inr l0)), some (.inl x1), none] → K2 (x1, σ) → W p l e rm_X0_checkLeads s m args below meth c H locs 0 0 (MQ below (va_Qi Qx (fun u t => Pw G D tc b0 u t) (AA b0)) args s 0 0 (AA b0)) (F0 m 2 ls [])) (hS : va_S (AA b0) s.heap H locs) (hW : Wd G D tc b0 σ H) (hl : hL b0 ls 3 [some (.inr (.inr l0)), some (.inl l1), none]) (h : X_X0_checkLeads_80 G Qx K2 l0 l1  σ) : W p l e rm_X0_checkLeads s m args below meth c H locs 0 0 (MQ below (va_Qi Qx (fun u t => Pw G D tc b0 u t) (AA b0)) args s 0 0 (AA b0)) (F0 m 80 ls []) := by
  have hx := C.1
  have hb := C.2.1
  unfold X_X0_checkLeads_80 at h
  refine x_iinc C hl dX0_checkLeads_80 rfl (v := (1 : Int32)) (by decide) (by decide) rfl (fun ls hl => ?_)
  refine lv_goto hx hb dX0_checkLeads_83 (tgt := 2) rfl ?_
  exact hK2 _ _ _ _ _ hS hW (hl.keep [true, true, false] rfl) h
set_option maxRecDepth 20000 in
set_option maxHeartbeats 4000000 in
theorem t_X0_checkLeads_51 {p : Program} {l : Launch} {e : Env} {s : State} {m : MethodId} {args : Array Value} {below : List Frame} {meth : Method} {c : Code} {H : Heap} {locs : List Loc} {D : va_G} {tc : Nat → ClassId} {b0 : Nat} {ls : Array Slot} {G : Lay} {Qx : Int32 → Mem → Prop} {l0 : Nat} {l1 : Int32} {l2 : Nat}  {K2 : Int32 × Mem → Prop} {σ : Mem} (C : Cx p s m args meth c cX0_checkLeads RX0 3 D tc b0) (hr : meth.sig.returnType = (some FieldType.boolean)) (hK2 : ∀ (x1 : Int32) (σ : Mem) (H : Heap) (locs : List Loc) (ls : Array Slot), va_S (AA b0) s.heap H locs → Wd G D tc b0 σ H → hL b0 ls 3 [some (.inr (.inr l0)), some (.inl x1), none] → K2 (x1, σ) → W p l e rm_X0_checkLeads s m args below meth c H locs 0 0 (MQ below (va_Qi Qx (fun u t => Pw G D tc b0 u t) (AA b0)) args s 0 0 (AA b0)) (F0 m 2 ls [])) (hS : va_S (AA b0) s.heap H locs) (hW : Wd G D tc b0 σ H) (hl : hL b0 ls 3 [some (.inr (.inr l0)), some (.inl l1), some (.inr (.inr l2))]) (h : X_X0_checkLeads_51 G Qx K2 l0 l1 l2  σ) : W p l e rm_X0_checkLeads s m args below meth c H locs 0 0 (MQ below (va_Qi Qx (fun u t => Pw G D tc b0 u t) (AA b0)) args s 0 0 (AA b0)) (F0 m 51 ls []) := by
  have hx := C.1
  have hb := C.2.1
  unfold X_X0_checkLeads_51 at h
  refine x_aload_n C hl dX0_checkLeads_51 rfl ?_
  have t1 := h.1
  replace h := h.2
  refine x_get C hW (t := 2) (k := 2) t1 kl_2 (by decide) fl_X0_132 (v := .int (mI σ l2 2)) rfl dX0_checkLeads_52 ?_
  refine lv_iconst (v := (5 : Int32)) hx hb dX0_checkLeads_55 (by decide) ?_
  refine lv_icmp_ne hx hb dX0_checkLeads_56 (tgt := 80) rfl (fun hc => ?_) (fun hc => ?_)
  · replace h := h.2 hc
    exact t_X0_checkLeads_80 C hr hK2 hS hW (hl.keep [true, true, false] rfl) h
  · replace h := h.1 hc
    refine x_aload_n C hl dX0_checkLeads_59 rfl ?_
    refine x_aload_n C hl dX0_checkLeads_60 rfl ?_
    have t2 := h.1
    replace h := h.2
    refine y_i (x_run (As := [rv b0 l2]) C hW hS (T_X0_findBy l l0 l2 σ _ h) t2 kl_0 (CW.of yv_X0_findBy ml_X0_263) ⟨rfl, rfl, ⟨by decide, by decide⟩, by decide, by decide⟩ rfl hl.1 rfl (by decide) dX0_checkLeads_61) hS (fun w4 s3 H locs h hW hS => ?_)
    refine lv_if_ne hx hb dX0_checkLeads_64 (tgt := 80) rfl (fun hc => ?_) (fun hc => ?_)
    · replace h := h.2 hc
      exact t_X0_checkLeads_80 C hr hK2 hS hW (hl.keep [true, true, false] rfl) h
    · replace h := h.1 hc
      refine x_aload_n C hl dX0_checkLeads_67 rfl ?_
      refine x_get C hW (t := 0) (k := 0) t2 kl_0 (by decide) fl_X0_9 (v := rv b0 (mR s3 l0 0)) rfl dX0_checkLeads_68 ?_
      refine lv_iconst (v := (5 : Int32)) hx hb dX0_checkLeads_71 (by decide) ?_
      refine x_aload_n C hl dX0_checkLeads_72 rfl ?_
      refine x_get C hW (t := 2) (k := 10) t1 kl_2 (by decide) fl_X0_235 (v := .int (mI s3 l2 10)) rfl dX0_checkLeads_73 ?_
      have t5 := h.1
      replace h := h.2
      refine y_i (x_run (As := [.int (5 : Int32), .int (mI s3 l2 10)]) C hW hS (T_X8_refuseAt l (mR s3 l0 0) (5 : Int32) (mI s3 l2 10) s3 _ h) t5 kl_8 (CW.of yv_X8_refuseAt ml_X0_259) ⟨rfl, rfl, ⟨by decide, by decide⟩, by decide, by decide⟩ rfl hl.1 rfl (by decide) dX0_checkLeads_76) hS (fun w7 s6 H locs h hW hS => ?_)
      exact r_z C hr hW hS h.1 h.2 dX0_checkLeads_79
set_option maxRecDepth 20000 in
set_option maxHeartbeats 4000000 in
theorem t_X0_checkLeads_2_n {p : Program} {l : Launch} {e : Env} {s : State} {m : MethodId} {args : Array Value} {below : List Frame} {meth : Method} {c : Code} {D : va_G} {tc : Nat → ClassId} {b0 : Nat} {G : Lay} {Qx : Int32 → Mem → Prop} {l0 : Nat} (C : Cx p s m args meth c cX0_checkLeads RX0 3 D tc b0) (hr : meth.sig.returnType = (some FieldType.boolean)) (n : Nat) : ∀ (l1 : Int32) (σ : Mem) (H : Heap) (locs : List Loc) (ls : Array Slot), va_S (AA b0) s.heap H locs → Wd G D tc b0 σ H → hL b0 ls 3 [some (.inr (.inr l0)), some (.inl l1), none] → Lp (X_X0_checkLeads_2_s G Qx l0) n (l1, σ) → W p l e rm_X0_checkLeads s m args below meth c H locs 0 0 (MQ below (va_Qi Qx (fun u t => Pw G D tc b0 u t) (AA b0)) args s 0 0 (AA b0)) (F0 m 2 ls []) := by
  have hx := C.1
  have hb := C.2.1
  induction n with
  | zero => intro l1 σ H locs ls hS hW hl h; exact False.elim h
  | succ n hK2 =>
    intro l1 σ H locs ls hS hW hl h
    replace h : X_X0_checkLeads_2_s G Qx l0 (Lp (X_X0_checkLeads_2_s G Qx l0) n) (l1, σ) := h
    unfold X_X0_checkLeads_2_s at h
    refine x_iload_n C hl dX0_checkLeads_2 rfl ?_
    refine x_aload_n C hl dX0_checkLeads_3 rfl ?_
    have t1 := h.1
    replace h := h.2
    refine x_get C hW (t := 0) (k := 1) t1 kl_0 (by decide) fl_X0_15 (v := rv b0 (mR σ l0 1)) rfl dX0_checkLeads_4 ?_
    have t2 := h.1
    replace h := h.2
    refine x_get C hW (t := 6) (k := 2) t2 kl_6 (by decide) fl_X0_247 (v := .int (mI σ (mR σ l0 1) 2)) rfl dX0_checkLeads_7 ?_
    refine lv_icmp_ge hx hb dX0_checkLeads_10 (tgt := 86) rfl (fun hc => ?_) (fun hc => ?_)
    · replace h := h.1 hc
      refine lv_iconst (v := (1 : Int32)) hx hb dX0_checkLeads_86 (by decide) ?_
      exact r_z C hr hW hS h.1 h.2 dX0_checkLeads_87
    · replace h := h.2 hc
      refine x_aload_n C hl dX0_checkLeads_13 rfl ?_
      refine x_get C hW (t := 0) (k := 1) t1 kl_0 (by decide) fl_X0_15 (v := rv b0 (mR σ l0 1)) rfl dX0_checkLeads_14 ?_
      refine x_get C hW (t := 6) (k := 3) t2 kl_6 (by decide) fl_X0_250 (v := rv b0 (mR σ (mR σ l0 1) 3)) rfl dX0_checkLeads_17 ?_
      refine x_iload_n C hl dX0_checkLeads_20 rfl ?_
      have t3 := h.1
      replace h := h.2
      have v4 := h.1
      replace h := h.2
      refine x_aald C hW (t := 104) (t0 := 5) t3 (by decide) rfl v4 dX0_checkLeads_21 ?_
      refine x_astore_n C hl dX0_checkLeads_22 (by decide) rfl (fun ls hl => ?_)
      refine x_aload_n C hl dX0_checkLeads_23 rfl ?_
      have t5 := h.1
      replace h := h.2
      refine y_i (x_run (As := []) C hW hS (T_X2_isLeading l (mR σ (mR σ (mR σ l0 1) 3) l1.toNatClampNeg) σ _ h) t5 kl_2 (CW.of yv_X2_isLeading ml_X0_253) ⟨rfl, rfl, ⟨by decide, by decide⟩, by decide, by decide⟩ rfl hl.1 rfl (by decide) dX0_checkLeads_24) hS (fun w7 s6 H locs h hW hS => ?_)
      refine lv_if_eq hx hb dX0_checkLeads_27 (tgt := 51) rfl (fun hc => ?_) (fun hc => ?_)
      · replace h := h.1 hc
        exact t_X0_checkLeads_51 C hr hK2 hS hW (hl.keep [true, true, true] rfl) h
      · replace h := h.2 hc
        refine x_aload_n C hl dX0_checkLeads_30 rfl ?_
        refine x_get C hW (t := 2) (k := 8) t5 kl_2 (by decide) fl_X0_256 (v := .int (mI s6 (mR σ (mR σ (mR σ l0 1) 3) l1.toNatClampNeg) 8)) rfl dX0_checkLeads_31 ?_
        refine lv_iconst (v := (-1 : Int32)) hx hb dX0_checkLeads_34 (by decide) ?_
        refine lv_icmp_ne hx hb dX0_checkLeads_35 (tgt := 51) rfl (fun hc => ?_) (fun hc => ?_)
        · replace h := h.2 hc
          exact t_X0_checkLeads_51 C hr hK2 hS hW (hl.keep [true, true, true] rfl) h
        · replace h := h.1 hc
          refine x_aload_n C hl dX0_checkLeads_38 rfl ?_
          refine x_get C hW (t := 0) (k := 0) t1 kl_0 (by decide) fl_X0_9 (v := rv b0 (mR s6 l0 0)) rfl dX0_checkLeads_39 ?_
          refine lv_iconst (v := (5 : Int32)) hx hb dX0_checkLeads_42 (by decide) ?_
          refine x_aload_n C hl dX0_checkLeads_43 rfl ?_
          refine x_get C hW (t := 2) (k := 7) t5 kl_2 (by decide) fl_X0_241 (v := .int (mI s6 (mR σ (mR σ (mR σ l0 1) 3) l1.toNatClampNeg) 7)) rfl dX0_checkLeads_44 ?_
          have t8 := h.1
          replace h := h.2
          refine y_i (x_run (As := [.int (5 : Int32), .int (mI s6 (mR σ (mR σ (mR σ l0 1) 3) l1.toNatClampNeg) 7)]) C hW hS (T_X8_refuseAt l (mR s6 l0 0) (5 : Int32) (mI s6 (mR σ (mR σ (mR σ l0 1) 3) l1.toNatClampNeg) 7) s6 _ h) t8 kl_8 (CW.of yv_X8_refuseAt ml_X0_259) ⟨rfl, rfl, ⟨by decide, by decide⟩, by decide, by decide⟩ rfl hl.1 rfl (by decide) dX0_checkLeads_47) hS (fun w10 s9 H locs h hW hS => ?_)
          exact r_z C hr hW hS h.1 h.2 dX0_checkLeads_50
set_option maxRecDepth 20000 in
set_option maxHeartbeats 4000000 in
theorem t_X0_checkLeads_2 {p : Program} {l : Launch} {e : Env} {s : State} {m : MethodId} {args : Array Value} {below : List Frame} {meth : Method} {c : Code} {H : Heap} {locs : List Loc} {D : va_G} {tc : Nat → ClassId} {b0 : Nat} {ls : Array Slot} {G : Lay} {Qx : Int32 → Mem → Prop} {l0 : Nat} {l1 : Int32}  {σ : Mem} (C : Cx p s m args meth c cX0_checkLeads RX0 3 D tc b0) (hr : meth.sig.returnType = (some FieldType.boolean)) (hS : va_S (AA b0) s.heap H locs) (hW : Wd G D tc b0 σ H) (hl : hL b0 ls 3 [some (.inr (.inr l0)), some (.inl l1), none]) (h : X_X0_checkLeads_2 G Qx l0 l1 σ) : W p l e rm_X0_checkLeads s m args below meth c H locs 0 0 (MQ below (va_Qi Qx (fun u t => Pw G D tc b0 u t) (AA b0)) args s 0 0 (AA b0)) (F0 m 2 ls []) := by
  obtain ⟨n, h⟩ := h
  exact t_X0_checkLeads_2_n C hr n l1 σ H locs ls hS hW hl h
set_option maxRecDepth 20000 in
set_option maxHeartbeats 4000000 in
theorem t_X0_checkLeads_0 {p : Program} {l : Launch} {e : Env} {s : State} {m : MethodId} {args : Array Value} {below : List Frame} {meth : Method} {c : Code} {H : Heap} {locs : List Loc} {D : va_G} {tc : Nat → ClassId} {b0 : Nat} {ls : Array Slot} {G : Lay} {Qx : Int32 → Mem → Prop} {l0 : Nat}  {σ : Mem} (C : Cx p s m args meth c cX0_checkLeads RX0 3 D tc b0) (hr : meth.sig.returnType = (some FieldType.boolean)) (hS : va_S (AA b0) s.heap H locs) (hW : Wd G D tc b0 σ H) (hl : hL b0 ls 3 [some (.inr (.inr l0)), none, none]) (h : X_X0_checkLeads_0 G Qx l0  σ) : W p l e rm_X0_checkLeads s m args below meth c H locs 0 0 (MQ below (va_Qi Qx (fun u t => Pw G D tc b0 u t) (AA b0)) args s 0 0 (AA b0)) (F0 m 0 ls []) := by
  have hx := C.1
  have hb := C.2.1
  unfold X_X0_checkLeads_0 at h
  refine lv_iconst (v := (0 : Int32)) hx hb dX0_checkLeads_0 (by decide) ?_
  refine x_istore_n C hl dX0_checkLeads_1 (by decide) rfl (fun ls hl => ?_)
  exact t_X0_checkLeads_2 C hr hS hW (hl.keep [true, true, false] rfl) h
theorem T_X0_checkLeads (l : Launch) {G : Lay} {D : va_G} {tc : Nat → ClassId} {b0 : Nat} (l0 : Nat) (σ : Mem) (Qx : Int32 → Mem → Prop) (h : X_X0_checkLeads G Qx l0 σ) : MI l yX0_checkLeads cX0_checkLeads 3 ((some FieldType.boolean)) rm_X0_checkLeads G D tc b0 [rv b0 l0] σ Qx :=
  x_entry (y := yX0_checkLeads) [.inr (.inr l0)] 2 (by decide) (Nat.le_of_ble_eq_true rfl) (fun p e s m args below meth c ls C hr hW hl => t_X0_checkLeads_0 C hr va_S.rf hW (hl.keep [true, false, false] rfl) h)
/-! X0_readClasses -/
set_option maxRecDepth 20000 in
set_option maxHeartbeats 4000000 in
theorem t_X0_readClasses_61 {p : Program} {l : Launch} {e : Env} {s : State} {m : MethodId} {args : Array Value} {below : List Frame} {meth : Method} {c : Code} {H : Heap} {locs : List Loc} {D : va_G} {tc : Nat → ClassId} {b0 : Nat} {ls : Array Slot} {G : Lay} {Qx : Int32 → Mem → Prop} {l0 : Nat} {l2 : Int32} {k0 : Int32} {K19 : Int32 × Mem → Prop} {σ : Mem} (C : Cx p s m args meth c cX0_readClasses RX0 4 D tc b0) (hr : meth.sig.returnType = (some FieldType.boolean)) (hK19 : ∀ (x2 : Int32) (σ : Mem) (H : Heap) (locs : List Loc) (ls : Array Slot), va_S (AA b0) s.heap H locs → Wd G D tc b0 σ H → hL b0 ls 4 [some (.inr (.inr l0)), none, some (.inl x2), none] → K19 (x2, σ) → W p l e rm_X0_readClasses s m args below meth c H locs 0 0 (MQ below (va_Qi Qx (fun u t => Pw G D tc b0 u t) (AA b0)) args s 0 0 (AA b0)) (F0 m 19 ls [])) (hS : va_S (AA b0) s.heap H locs) (hW : Wd G D tc b0 σ H) (hl : hL b0 ls 4 [some (.inr (.inr l0)), none, some (.inl l2), none]) (h : X_X0_readClasses_61 G Qx K19 l0 l2 k0 σ) : W p l e rm_X0_readClasses s m args below meth c H locs 0 0 (MQ below (va_Qi Qx (fun u t => Pw G D tc b0 u t) (AA b0)) args s 0 0 (AA b0)) (F0 m 61 ls [.int k0]) := by
  have hx := C.1
  have hb := C.2.1
  unfold X_X0_readClasses_61 at h
  refine x_istore_n C hl dX0_readClasses_61 (by decide) rfl (fun ls hl => ?_)
  refine x_iload_n C hl dX0_readClasses_62 rfl ?_
  refine lv_if_ne hx hb dX0_readClasses_63 (tgt := 68) rfl (fun hc => ?_) (fun hc => ?_)
  · replace h := h.2 hc
    refine x_iinc C hl dX0_readClasses_68 rfl (v := (1 : Int32)) (by decide) (by decide) rfl (fun ls hl => ?_)
    refine lv_goto hx hb dX0_readClasses_71 (tgt := 19) rfl ?_
    exact hK19 _ _ _ _ _ hS hW (hl.keep [true, false, true, false] rfl) h
  · replace h := h.1 hc
    refine lv_iconst (v := (0 : Int32)) hx hb dX0_readClasses_66 (by decide) ?_
    exact r_z C hr hW hS h.1 h.2 dX0_readClasses_67
set_option maxRecDepth 20000 in
set_option maxHeartbeats 4000000 in
theorem t_X0_readClasses_43 {p : Program} {l : Launch} {e : Env} {s : State} {m : MethodId} {args : Array Value} {below : List Frame} {meth : Method} {c : Code} {H : Heap} {locs : List Loc} {D : va_G} {tc : Nat → ClassId} {b0 : Nat} {ls : Array Slot} {G : Lay} {Qx : Int32 → Mem → Prop} {l0 : Nat} {l2 : Int32}  {K19 : Int32 × Mem → Prop} {σ : Mem} (C : Cx p s m args meth c cX0_readClasses RX0 4 D tc b0) (hr : meth.sig.returnType = (some FieldType.boolean)) (hK19 : ∀ (x2 : Int32) (σ : Mem) (H : Heap) (locs : List Loc) (ls : Array Slot), va_S (AA b0) s.heap H locs → Wd G D tc b0 σ H → hL b0 ls 4 [some (.inr (.inr l0)), none, some (.inl x2), none] → K19 (x2, σ) → W p l e rm_X0_readClasses s m args below meth c H locs 0 0 (MQ below (va_Qi Qx (fun u t => Pw G D tc b0 u t) (AA b0)) args s 0 0 (AA b0)) (F0 m 19 ls [])) (hS : va_S (AA b0) s.heap H locs) (hW : Wd G D tc b0 σ H) (hl : hL b0 ls 4 [some (.inr (.inr l0)), none, some (.inl l2), none]) (h : X_X0_readClasses_43 G Qx K19 l0 l2  σ) : W p l e rm_X0_readClasses s m args below meth c H locs 0 0 (MQ below (va_Qi Qx (fun u t => Pw G D tc b0 u t) (AA b0)) args s 0 0 (AA b0)) (F0 m 43 ls []) := by
  have hx := C.1
  have hb := C.2.1
  unfold X_X0_readClasses_43 at h
  refine x_aload_n C hl dX0_readClasses_43 rfl ?_
  have t1 := h.1
  replace h := h.2
  refine x_get C hW (t := 0) (k := 2) t1 kl_0 (by decide) fl_X0_24 (v := rv b0 (mR σ l0 2)) rfl dX0_readClasses_44 ?_
  refine x_ifnonnull C dX0_readClasses_47 (tgt := 57) rfl (fun hc => ?_) (fun hc => ?_)
  · replace h := h.2 hc
    refine x_aload_n C hl dX0_readClasses_57 rfl ?_
    refine y_i (x_run (As := []) C hW hS (T_X0_readPart l l0 σ _ h) t1 kl_0 (CW.of yv_X0_readPart ml_X0_37) ⟨rfl, rfl, ⟨by decide, by decide⟩, by decide, by decide⟩ rfl hl.1 rfl (by decide) dX0_readClasses_58) hS (fun w3 s2 H locs h hW hS => ?_)
    exact t_X0_readClasses_61 C hr hK19 hS hW (hl.keep [true, false, true, false] rfl) h
  · replace h := h.1 hc
    refine x_aload_n C hl dX0_readClasses_50 rfl ?_
    refine y_i (x_run (As := []) C hW hS (T_X0_readHead l l0 σ _ h) t1 kl_0 (CW.of yv_X0_readHead ml_X0_34) ⟨rfl, rfl, ⟨by decide, by decide⟩, by decide, by decide⟩ rfl hl.1 rfl (by decide) dX0_readClasses_51) hS (fun w5 s4 H locs h hW hS => ?_)
    refine lv_goto hx hb dX0_readClasses_54 (tgt := 61) rfl ?_
    exact t_X0_readClasses_61 C hr hK19 hS hW (hl.keep [true, false, true, false] rfl) h
set_option maxRecDepth 20000 in
set_option maxHeartbeats 4000000 in
theorem t_X0_readClasses_74 {p : Program} {l : Launch} {e : Env} {s : State} {m : MethodId} {args : Array Value} {below : List Frame} {meth : Method} {c : Code} {H : Heap} {locs : List Loc} {D : va_G} {tc : Nat → ClassId} {b0 : Nat} {ls : Array Slot} {G : Lay} {Qx : Int32 → Mem → Prop} {l0 : Nat}  {σ : Mem} (C : Cx p s m args meth c cX0_readClasses RX0 4 D tc b0) (hr : meth.sig.returnType = (some FieldType.boolean)) (hS : va_S (AA b0) s.heap H locs) (hW : Wd G D tc b0 σ H) (hl : hL b0 ls 4 [some (.inr (.inr l0)), none, none, none]) (h : X_X0_readClasses_74 G Qx l0  σ) : W p l e rm_X0_readClasses s m args below meth c H locs 0 0 (MQ below (va_Qi Qx (fun u t => Pw G D tc b0 u t) (AA b0)) args s 0 0 (AA b0)) (F0 m 74 ls []) := by
  have hx := C.1
  have hb := C.2.1
  unfold X_X0_readClasses_74 at h
  refine x_aload_n C hl dX0_readClasses_74 rfl ?_
  have t1 := h.1
  replace h := h.2
  refine y_v (x_run (As := []) C hW hS (T_X0_findTargets l l0 σ _ h) t1 kl_0 (CW.of yv_X0_findTargets ml_X0_40) ⟨rfl, rfl, ⟨by decide, by decide⟩, by decide, by decide⟩ rfl hl.1 rfl (by decide) dX0_readClasses_75) hS (fun s2 H locs h hW hS => ?_)
  refine x_aload_n C hl dX0_readClasses_78 rfl ?_
  refine y_i (x_run (As := []) C hW hS (T_X0_checkLeads l l0 s2 _ h) t1 kl_0 (CW.of yv_X0_checkLeads ml_X0_43) ⟨rfl, rfl, ⟨by decide, by decide⟩, by decide, by decide⟩ rfl hl.1 rfl (by decide) dX0_readClasses_79) hS (fun w4 s3 H locs h hW hS => ?_)
  exact r_z C hr hW hS h.1 h.2 dX0_readClasses_82
set_option maxRecDepth 20000 in
set_option maxHeartbeats 4000000 in
theorem t_X0_readClasses_19_n {p : Program} {l : Launch} {e : Env} {s : State} {m : MethodId} {args : Array Value} {below : List Frame} {meth : Method} {c : Code} {D : va_G} {tc : Nat → ClassId} {b0 : Nat} {G : Lay} {Qx : Int32 → Mem → Prop} {l0 : Nat} (C : Cx p s m args meth c cX0_readClasses RX0 4 D tc b0) (hr : meth.sig.returnType = (some FieldType.boolean)) (n : Nat) : ∀ (l2 : Int32) (σ : Mem) (H : Heap) (locs : List Loc) (ls : Array Slot), va_S (AA b0) s.heap H locs → Wd G D tc b0 σ H → hL b0 ls 4 [some (.inr (.inr l0)), none, some (.inl l2), none] → Lp (X_X0_readClasses_19_s G Qx l0) n (l2, σ) → W p l e rm_X0_readClasses s m args below meth c H locs 0 0 (MQ below (va_Qi Qx (fun u t => Pw G D tc b0 u t) (AA b0)) args s 0 0 (AA b0)) (F0 m 19 ls []) := by
  have hx := C.1
  have hb := C.2.1
  induction n with
  | zero => intro l2 σ H locs ls hS hW hl h; exact False.elim h
  | succ n hK19 =>
    intro l2 σ H locs ls hS hW hl h
    replace h : X_X0_readClasses_19_s G Qx l0 (Lp (X_X0_readClasses_19_s G Qx l0) n) (l2, σ) := h
    unfold X_X0_readClasses_19_s at h
    refine x_iload_n C hl dX0_readClasses_19 rfl ?_
    refine lv_sipush (v := (3000 : Int32)) hx hb dX0_readClasses_20 (by decide) ?_
    refine lv_icmp_gt hx hb dX0_readClasses_23 (tgt := 74) rfl (fun hc => ?_) (fun hc => ?_)
    · replace h := h.1 hc
      exact t_X0_readClasses_74 C hr hS hW (hl.keep [true, false, false, false] rfl) h
    · replace h := h.2 hc
      refine x_aload_n C hl dX0_readClasses_26 rfl ?_
      have t1 := h.1
      replace h := h.2
      refine x_get C hW (t := 0) (k := 2) t1 kl_0 (by decide) fl_X0_24 (v := rv b0 (mR σ l0 2)) rfl dX0_readClasses_27 ?_
      refine x_ifnonnull C dX0_readClasses_30 (tgt := 43) rfl (fun hc => ?_) (fun hc => ?_)
      · replace h := h.2 hc
        exact t_X0_readClasses_43 C hr hK19 hS hW (hl.keep [true, false, true, false] rfl) h
      · replace h := h.1 hc
        refine x_aload_n C hl dX0_readClasses_33 rfl ?_
        refine x_get C hW (t := 0) (k := 0) t1 kl_0 (by decide) fl_X0_9 (v := rv b0 (mR σ l0 0)) rfl dX0_readClasses_34 ?_
        have t2 := h.1
        replace h := h.2
        refine y_i (x_run (As := []) C hW hS (T_X8_isEnd l (mR σ l0 0) σ _ h) t2 kl_8 (CW.of yv_X8_isEnd ml_X0_28) ⟨rfl, rfl, ⟨by decide, by decide⟩, by decide, by decide⟩ rfl hl.1 rfl (by decide) dX0_readClasses_37) hS (fun w4 s3 H locs h hW hS => ?_)
        refine lv_if_ne hx hb dX0_readClasses_40 (tgt := 74) rfl (fun hc => ?_) (fun hc => ?_)
        · replace h := h.2 hc
          exact t_X0_readClasses_74 C hr hS hW (hl.keep [true, false, false, false] rfl) h
        · replace h := h.1 hc
          exact t_X0_readClasses_43 C hr hK19 hS hW (hl.keep [true, false, true, false] rfl) h
set_option maxRecDepth 20000 in
set_option maxHeartbeats 4000000 in
theorem t_X0_readClasses_19 {p : Program} {l : Launch} {e : Env} {s : State} {m : MethodId} {args : Array Value} {below : List Frame} {meth : Method} {c : Code} {H : Heap} {locs : List Loc} {D : va_G} {tc : Nat → ClassId} {b0 : Nat} {ls : Array Slot} {G : Lay} {Qx : Int32 → Mem → Prop} {l0 : Nat} {l2 : Int32}  {σ : Mem} (C : Cx p s m args meth c cX0_readClasses RX0 4 D tc b0) (hr : meth.sig.returnType = (some FieldType.boolean)) (hS : va_S (AA b0) s.heap H locs) (hW : Wd G D tc b0 σ H) (hl : hL b0 ls 4 [some (.inr (.inr l0)), none, some (.inl l2), none]) (h : X_X0_readClasses_19 G Qx l0 l2 σ) : W p l e rm_X0_readClasses s m args below meth c H locs 0 0 (MQ below (va_Qi Qx (fun u t => Pw G D tc b0 u t) (AA b0)) args s 0 0 (AA b0)) (F0 m 19 ls []) := by
  obtain ⟨n, h⟩ := h
  exact t_X0_readClasses_19_n C hr n l2 σ H locs ls hS hW hl h
set_option maxRecDepth 20000 in
set_option maxHeartbeats 4000000 in
theorem t_X0_readClasses_0 {p : Program} {l : Launch} {e : Env} {s : State} {m : MethodId} {args : Array Value} {below : List Frame} {meth : Method} {c : Code} {H : Heap} {locs : List Loc} {D : va_G} {tc : Nat → ClassId} {b0 : Nat} {ls : Array Slot} {G : Lay} {Qx : Int32 → Mem → Prop} {l0 : Nat} {l1 : Nat}  {σ : Mem} (C : Cx p s m args meth c cX0_readClasses RX0 4 D tc b0) (hr : meth.sig.returnType = (some FieldType.boolean)) (hS : va_S (AA b0) s.heap H locs) (hW : Wd G D tc b0 σ H) (hl : hL b0 ls 4 [some (.inr (.inr l0)), some (.inr (.inr l1)), none, none]) (h : X_X0_readClasses_0 G Qx l0 l1  σ) : W p l e rm_X0_readClasses s m args below meth c H locs 0 0 (MQ below (va_Qi Qx (fun u t => Pw G D tc b0 u t) (AA b0)) args s 0 0 (AA b0)) (F0 m 0 ls []) := by
  have hx := C.1
  have hb := C.2.1
  unfold X_X0_readClasses_0 at h
  refine x_aload_n C hl dX0_readClasses_0 rfl ?_
  refine x_aload_n C hl dX0_readClasses_1 rfl ?_
  have t1 := h.1
  replace h := h.2
  refine x_putR C hW hS (t := 0) (k := 1) t1 kl_0 (by decide) fl_X0_15 rfl rfl (fun o => by cases o <;> rfl) (fun o => by cases o <;> rfl) dX0_readClasses_2 (fun H locs hW hS => ?_)
  obtain ⟨s2, e_s2⟩ : ∃ z : Mem, z = (sR σ l0 1 l1) := ⟨_, rfl⟩
  replace h := h s2 e_s2
  replace hW : Wd G D tc b0 s2 H := by rw [e_s2]; exact hW
  refine x_aload_n C hl dX0_readClasses_5 rfl ?_
  refine x_get C hW (t := 0) (k := 1) t1 kl_0 (by decide) fl_X0_15 (v := rv b0 (mR s2 l0 1)) rfl dX0_readClasses_6 ?_
  have t3 := h.1
  replace h := h.2
  refine y_v (x_run (As := []) C hW hS (T_X6_clear l (mR s2 l0 1) s2 _ h) t3 kl_6 (CW.of yv_X6_clear ml_X0_19) ⟨rfl, rfl, ⟨by decide, by decide⟩, by decide, by decide⟩ rfl hl.1 rfl (by decide) dX0_readClasses_9) hS (fun s4 H locs h hW hS => ?_)
  refine x_aload_n C hl dX0_readClasses_12 rfl ?_
  refine x_null C dX0_readClasses_13 ?_
  refine x_putR C hW hS (t := 0) (k := 2) t1 kl_0 (by decide) fl_X0_24 rfl rfl (fun o => by cases o <;> rfl) (fun o => by cases o <;> rfl) dX0_readClasses_14 (fun H locs hW hS => ?_)
  obtain ⟨s5, e_s5⟩ : ∃ z : Mem, z = (sR s4 l0 2 0) := ⟨_, rfl⟩
  replace h := h s5 e_s5
  replace hW : Wd G D tc b0 s5 H := by rw [e_s5]; exact hW
  refine lv_iconst (v := (0 : Int32)) hx hb dX0_readClasses_17 (by decide) ?_
  refine x_istore_n C hl dX0_readClasses_18 (by decide) rfl (fun ls hl => ?_)
  exact t_X0_readClasses_19 C hr hS hW (hl.keep [true, false, true, false] rfl) h
theorem T_X0_readClasses (l : Launch) {G : Lay} {D : va_G} {tc : Nat → ClassId} {b0 : Nat} (l0 : Nat) (l1 : Nat) (σ : Mem) (Qx : Int32 → Mem → Prop) (h : X_X0_readClasses G Qx l0 l1 σ) : MI l yX0_readClasses cX0_readClasses 4 ((some FieldType.boolean)) rm_X0_readClasses G D tc b0 [rv b0 l0, rv b0 l1] σ Qx :=
  x_entry (y := yX0_readClasses) [.inr (.inr l0), .inr (.inr l1)] 2 (by decide) (Nat.le_of_ble_eq_true rfl) (fun p e s m args below meth c ls C hr hW hl => t_X0_readClasses_0 C hr va_S.rf hW (hl.keep [true, true, false, false] rfl) h)
/-! X1_runHooks -/
set_option maxRecDepth 20000 in
set_option maxHeartbeats 4000000 in
theorem t_X1_runHooks_40 {p : Program} {l : Launch} {e : Env} {s : State} {m : MethodId} {args : Array Value} {below : List Frame} {meth : Method} {c : Code} {H : Heap} {locs : List Loc} {D : va_G} {tc : Nat → ClassId} {b0 : Nat} {ls : Array Slot} {G : Lay} {Qx : Mem → Prop} {l0 : Nat} {l1 : Nat} {l2 : Int32} {l3 : Int32}  {K2 : Int32 × Mem → Prop} {σ : Mem} (C : Cx p s m args meth c cX1_runHooks RX1 4 D tc b0) (hr : meth.sig.returnType = (none : Option FieldType)) (hK2 : ∀ (x3 : Int32) (σ : Mem) (H : Heap) (locs : List Loc) (ls : Array Slot), va_S (AA b0) s.heap H locs → Wd G D tc b0 σ H → hL b0 ls 4 [some (.inr (.inr l0)), some (.inr (.inr l1)), some (.inl l2), some (.inl x3)] → K2 (x3, σ) → W p l e rm_X1_runHooks s m args below meth c H locs 0 0 (MQ below (va_Qv Qx (fun u t => Pw G D tc b0 u t) (AA b0)) args s 0 0 (AA b0)) (F0 m 2 ls [])) (hS : va_S (AA b0) s.heap H locs) (hW : Wd G D tc b0 σ H) (hl : hL b0 ls 4 [some (.inr (.inr l0)), some (.inr (.inr l1)), some (.inl l2), some (.inl l3)]) (h : X_X1_runHooks_40 G Qx K2 l0 l1 l2 l3  σ) : W p l e rm_X1_runHooks s m args below meth c H locs 0 0 (MQ below (va_Qv Qx (fun u t => Pw G D tc b0 u t) (AA b0)) args s 0 0 (AA b0)) (F0 m 40 ls []) := by
  have hx := C.1
  have hb := C.2.1
  unfold X_X1_runHooks_40 at h
  refine x_iinc C hl dX1_runHooks_40 rfl (v := (1 : Int32)) (by decide) (by decide) rfl (fun ls hl => ?_)
  refine lv_goto hx hb dX1_runHooks_43 (tgt := 2) rfl ?_
  exact hK2 _ _ _ _ _ hS hW (hl.keep [true, true, true, true] rfl) h
set_option maxRecDepth 20000 in
set_option maxHeartbeats 4000000 in
theorem t_X1_runHooks_2_n {p : Program} {l : Launch} {e : Env} {s : State} {m : MethodId} {args : Array Value} {below : List Frame} {meth : Method} {c : Code} {D : va_G} {tc : Nat → ClassId} {b0 : Nat} {G : Lay} {Qx : Mem → Prop} {l0 : Nat} {l1 : Nat} {l2 : Int32} (C : Cx p s m args meth c cX1_runHooks RX1 4 D tc b0) (hr : meth.sig.returnType = (none : Option FieldType)) (n : Nat) : ∀ (l3 : Int32) (σ : Mem) (H : Heap) (locs : List Loc) (ls : Array Slot), va_S (AA b0) s.heap H locs → Wd G D tc b0 σ H → hL b0 ls 4 [some (.inr (.inr l0)), some (.inr (.inr l1)), some (.inl l2), some (.inl l3)] → Lp (X_X1_runHooks_2_s G Qx l0 l1 l2) n (l3, σ) → W p l e rm_X1_runHooks s m args below meth c H locs 0 0 (MQ below (va_Qv Qx (fun u t => Pw G D tc b0 u t) (AA b0)) args s 0 0 (AA b0)) (F0 m 2 ls []) := by
  have hx := C.1
  have hb := C.2.1
  induction n with
  | zero => intro l3 σ H locs ls hS hW hl h; exact False.elim h
  | succ n hK2 =>
    intro l3 σ H locs ls hS hW hl h
    replace h : X_X1_runHooks_2_s G Qx l0 l1 l2 (Lp (X_X1_runHooks_2_s G Qx l0 l1 l2) n) (l3, σ) := h
    unfold X_X1_runHooks_2_s at h
    refine x_iload_n C hl dX1_runHooks_2 rfl ?_
    refine x_aload_n C hl dX1_runHooks_3 rfl ?_
    have t1 := h.1
    replace h := h.2
    refine x_get C hW (t := 1) (k := 6) t1 kl_1 (by decide) fl_X1_45 (v := .int (mI σ l0 6)) rfl dX1_runHooks_4 ?_
    refine lv_icmp_ge hx hb dX1_runHooks_7 (tgt := 46) rfl (fun hc => ?_) (fun hc => ?_)
    · replace h := h.1 hc
      exact r_v C hr hW hS h dX1_runHooks_46
    · replace h := h.2 hc
      refine x_aload_n C hl dX1_runHooks_10 rfl ?_
      refine x_get C hW (t := 1) (k := 7) t1 kl_1 (by decide) fl_X1_17 (v := rv b0 (mR σ l0 7)) rfl dX1_runHooks_11 ?_
      refine x_iload_n C hl dX1_runHooks_14 rfl ?_
      have t2 := h.1
      replace h := h.2
      have v3 := h.1
      replace h := h.2
      refine x_zald C hW t2 v3 dX1_runHooks_15 ?_
      refine x_iload_n C hl dX1_runHooks_16 rfl ?_
      refine lv_icmp_ne hx hb dX1_runHooks_17 (tgt := 40) rfl (fun hc => ?_) (fun hc => ?_)
      · replace h := h.2 hc
        exact t_X1_runHooks_40 C hr hK2 hS hW (hl.keep [true, true, true, true] rfl) h
      · replace h := h.1 hc
        refine x_aload_n C hl dX1_runHooks_20 rfl ?_
        have t4 := h.1
        replace h := h.2
        refine x_get C hW (t := 7) (k := 6) t4 kl_7 (by decide) fl_X1_49 (v := rv b0 (mR σ l1 6)) rfl dX1_runHooks_21 ?_
        refine x_aload_n C hl dX1_runHooks_24 rfl ?_
        refine x_get C hW (t := 1) (k := 8) t1 kl_1 (by decide) fl_X1_21 (v := rv b0 (mR σ l0 8)) rfl dX1_runHooks_25 ?_
        refine x_iload_n C hl dX1_runHooks_28 rfl ?_
        have t5 := h.1
        replace h := h.2
        have v6 := h.1
        replace h := h.2
        refine x_iald C hW t5 v6 dX1_runHooks_29 ?_
        refine lv_dup2_11 hx hb dX1_runHooks_30 rfl (rv_cat _ _) ?_
        have t7 := h.1
        replace h := h.2
        have v8 := h.1
        replace h := h.2
        refine x_iald C hW t7 v8 dX1_runHooks_31 ?_
        refine x_aload_n C hl dX1_runHooks_32 rfl ?_
        refine x_get C hW (t := 1) (k := 9) t1 kl_1 (by decide) fl_X1_25 (v := rv b0 (mR σ l0 9)) rfl dX1_runHooks_33 ?_
        refine x_iload_n C hl dX1_runHooks_36 rfl ?_
        have t9 := h.1
        replace h := h.2
        have v10 := h.1
        replace h := h.2
        refine x_iald C hW t9 v10 dX1_runHooks_37 ?_
        refine lv_iadd hx hb dX1_runHooks_38 ?_
        refine x_iast C hW hS t7 v8 dX1_runHooks_39 (fun H locs hW hS => ?_)
        obtain ⟨s11, e_s11⟩ : ∃ z : Mem, z = (sI σ (mR σ l1 6) (mI σ (mR σ l0 8) l3.toNatClampNeg).toNatClampNeg ((mI σ (mR σ l1 6) (mI σ (mR σ l0 8) l3.toNatClampNeg).toNatClampNeg) + (mI σ (mR σ l0 9) l3.toNatClampNeg))) := ⟨_, rfl⟩
        replace h := h s11 e_s11
        replace hW : Wd G D tc b0 s11 H := by rw [e_s11]; exact hW
        exact t_X1_runHooks_40 C hr hK2 hS hW (hl.keep [true, true, true, true] rfl) h
set_option maxRecDepth 20000 in
set_option maxHeartbeats 4000000 in
theorem t_X1_runHooks_2 {p : Program} {l : Launch} {e : Env} {s : State} {m : MethodId} {args : Array Value} {below : List Frame} {meth : Method} {c : Code} {H : Heap} {locs : List Loc} {D : va_G} {tc : Nat → ClassId} {b0 : Nat} {ls : Array Slot} {G : Lay} {Qx : Mem → Prop} {l0 : Nat} {l1 : Nat} {l2 : Int32} {l3 : Int32}  {σ : Mem} (C : Cx p s m args meth c cX1_runHooks RX1 4 D tc b0) (hr : meth.sig.returnType = (none : Option FieldType)) (hS : va_S (AA b0) s.heap H locs) (hW : Wd G D tc b0 σ H) (hl : hL b0 ls 4 [some (.inr (.inr l0)), some (.inr (.inr l1)), some (.inl l2), some (.inl l3)]) (h : X_X1_runHooks_2 G Qx l0 l1 l2 l3 σ) : W p l e rm_X1_runHooks s m args below meth c H locs 0 0 (MQ below (va_Qv Qx (fun u t => Pw G D tc b0 u t) (AA b0)) args s 0 0 (AA b0)) (F0 m 2 ls []) := by
  obtain ⟨n, h⟩ := h
  exact t_X1_runHooks_2_n C hr n l3 σ H locs ls hS hW hl h
set_option maxRecDepth 20000 in
set_option maxHeartbeats 4000000 in
theorem t_X1_runHooks_0 {p : Program} {l : Launch} {e : Env} {s : State} {m : MethodId} {args : Array Value} {below : List Frame} {meth : Method} {c : Code} {H : Heap} {locs : List Loc} {D : va_G} {tc : Nat → ClassId} {b0 : Nat} {ls : Array Slot} {G : Lay} {Qx : Mem → Prop} {l0 : Nat} {l1 : Nat} {l2 : Int32}  {σ : Mem} (C : Cx p s m args meth c cX1_runHooks RX1 4 D tc b0) (hr : meth.sig.returnType = (none : Option FieldType)) (hS : va_S (AA b0) s.heap H locs) (hW : Wd G D tc b0 σ H) (hl : hL b0 ls 4 [some (.inr (.inr l0)), some (.inr (.inr l1)), some (.inl l2), none]) (h : X_X1_runHooks_0 G Qx l0 l1 l2  σ) : W p l e rm_X1_runHooks s m args below meth c H locs 0 0 (MQ below (va_Qv Qx (fun u t => Pw G D tc b0 u t) (AA b0)) args s 0 0 (AA b0)) (F0 m 0 ls []) := by
  have hx := C.1
  have hb := C.2.1
  unfold X_X1_runHooks_0 at h
  refine lv_iconst (v := (0 : Int32)) hx hb dX1_runHooks_0 (by decide) ?_
  refine x_istore_n C hl dX1_runHooks_1 (by decide) rfl (fun ls hl => ?_)
  exact t_X1_runHooks_2 C hr hS hW (hl.keep [true, true, true, true] rfl) h
theorem T_X1_runHooks (l : Launch) {G : Lay} {D : va_G} {tc : Nat → ClassId} {b0 : Nat} (l0 : Nat) (l1 : Nat) (l2 : Int32) (σ : Mem) (Qx : Mem → Prop) (h : X_X1_runHooks G Qx l0 l1 l2 σ) : MV l yX1_runHooks cX1_runHooks 4 ((none : Option FieldType)) rm_X1_runHooks G D tc b0 [rv b0 l0, rv b0 l1, .int l2] σ Qx :=
  x_entry (y := yX1_runHooks) [.inr (.inr l0), .inr (.inr l1), .inl l2] 1 (by decide) (Nat.le_of_ble_eq_true rfl) (fun p e s m args below meth c ls C hr hW hl => t_X1_runHooks_0 C hr va_S.rf hW (hl.keep [true, true, true, false] rfl) h)
/-! X2_has -/
set_option maxRecDepth 20000 in
set_option maxHeartbeats 4000000 in
theorem t_X2_has_14 {p : Program} {l : Launch} {e : Env} {s : State} {m : MethodId} {args : Array Value} {below : List Frame} {meth : Method} {c : Code} {H : Heap} {locs : List Loc} {D : va_G} {tc : Nat → ClassId} {b0 : Nat} {ls : Array Slot} {G : Lay} {Qx : Int32 → Mem → Prop}  {k0 : Int32} {σ : Mem} (C : Cx p s m args meth c cX2_has RX2 2 D tc b0) (hr : meth.sig.returnType = (some FieldType.boolean)) (hS : va_S (AA b0) s.heap H locs) (hW : Wd G D tc b0 σ H) (hl : hL b0 ls 2 [none, none]) (h : X_X2_has_14 G Qx  k0 σ) : W p l e rm_X2_has s m args below meth c H locs 0 0 (MQ below (va_Qi Qx (fun u t => Pw G D tc b0 u t) (AA b0)) args s 0 0 (AA b0)) (F0 m 14 ls [.int k0]) := by
  have hx := C.1
  have hb := C.2.1
  unfold X_X2_has_14 at h
  exact r_z C hr hW hS h.1 h.2 dX2_has_14
set_option maxRecDepth 20000 in
set_option maxHeartbeats 4000000 in
theorem t_X2_has_0 {p : Program} {l : Launch} {e : Env} {s : State} {m : MethodId} {args : Array Value} {below : List Frame} {meth : Method} {c : Code} {H : Heap} {locs : List Loc} {D : va_G} {tc : Nat → ClassId} {b0 : Nat} {ls : Array Slot} {G : Lay} {Qx : Int32 → Mem → Prop} {l0 : Nat} {l1 : Int32}  {σ : Mem} (C : Cx p s m args meth c cX2_has RX2 2 D tc b0) (hr : meth.sig.returnType = (some FieldType.boolean)) (hS : va_S (AA b0) s.heap H locs) (hW : Wd G D tc b0 σ H) (hl : hL b0 ls 2 [some (.inr (.inr l0)), some (.inl l1)]) (h : X_X2_has_0 G Qx l0 l1  σ) : W p l e rm_X2_has s m args below meth c H locs 0 0 (MQ below (va_Qi Qx (fun u t => Pw G D tc b0 u t) (AA b0)) args s 0 0 (AA b0)) (F0 m 0 ls []) := by
  have hx := C.1
  have hb := C.2.1
  unfold X_X2_has_0 at h
  refine x_aload_n C hl dX2_has_0 rfl ?_
  have t1 := h.1
  replace h := h.2
  refine x_get C hW (t := 2) (k := 3) t1 kl_2 (by decide) fl_X2_19 (v := .int (mI σ l0 3)) rfl dX2_has_1 ?_
  refine x_iload_n C hl dX2_has_4 rfl ?_
  refine lv_iand hx hb dX2_has_5 ?_
  refine lv_if_eq hx hb dX2_has_6 (tgt := 13) rfl (fun hc => ?_) (fun hc => ?_)
  · replace h := h.1 hc
    refine lv_iconst (v := (0 : Int32)) hx hb dX2_has_13 (by decide) ?_
    exact t_X2_has_14 C hr hS hW (hl.keep [false, false] rfl) h
  · replace h := h.2 hc
    refine lv_iconst (v := (1 : Int32)) hx hb dX2_has_9 (by decide) ?_
    refine lv_goto hx hb dX2_has_10 (tgt := 14) rfl ?_
    exact t_X2_has_14 C hr hS hW (hl.keep [false, false] rfl) h
theorem T_X2_has (l : Launch) {G : Lay} {D : va_G} {tc : Nat → ClassId} {b0 : Nat} (l0 : Nat) (l1 : Int32) (σ : Mem) (Qx : Int32 → Mem → Prop) (h : X_X2_has G Qx l0 l1 σ) : MI l yX2_has cX2_has 2 ((some FieldType.boolean)) rm_X2_has G D tc b0 [rv b0 l0, .int l1] σ Qx :=
  x_entry (y := yX2_has) [.inr (.inr l0), .inl l1] 0 (by decide) (Nat.le_of_ble_eq_true rfl) (fun p e s m args below meth c ls C hr hW hl => t_X2_has_0 C hr va_S.rf hW (hl.keep [true, true] rfl) h)
/-! X2_holds -/
set_option maxRecDepth 20000 in
set_option maxHeartbeats 4000000 in
theorem t_X2_holds_55 {p : Program} {l : Launch} {e : Env} {s : State} {m : MethodId} {args : Array Value} {below : List Frame} {meth : Method} {c : Code} {H : Heap} {locs : List Loc} {D : va_G} {tc : Nat → ClassId} {b0 : Nat} {ls : Array Slot} {G : Lay} {Qx : Int32 → Mem → Prop}  {k0 : Int32} {σ : Mem} (C : Cx p s m args meth c cX2_holds RX2 2 D tc b0) (hr : meth.sig.returnType = (some FieldType.boolean)) (hS : va_S (AA b0) s.heap H locs) (hW : Wd G D tc b0 σ H) (hl : hL b0 ls 2 [none, none]) (h : X_X2_holds_55 G Qx  k0 σ) : W p l e rm_X2_holds s m args below meth c H locs 0 0 (MQ below (va_Qi Qx (fun u t => Pw G D tc b0 u t) (AA b0)) args s 0 0 (AA b0)) (F0 m 55 ls [.int k0]) := by
  have hx := C.1
  have hb := C.2.1
  unfold X_X2_holds_55 at h
  exact r_z C hr hW hS h.1 h.2 dX2_holds_55
set_option maxRecDepth 20000 in
set_option maxHeartbeats 4000000 in
theorem t_X2_holds_54 {p : Program} {l : Launch} {e : Env} {s : State} {m : MethodId} {args : Array Value} {below : List Frame} {meth : Method} {c : Code} {H : Heap} {locs : List Loc} {D : va_G} {tc : Nat → ClassId} {b0 : Nat} {ls : Array Slot} {G : Lay} {Qx : Int32 → Mem → Prop}   {σ : Mem} (C : Cx p s m args meth c cX2_holds RX2 2 D tc b0) (hr : meth.sig.returnType = (some FieldType.boolean)) (hS : va_S (AA b0) s.heap H locs) (hW : Wd G D tc b0 σ H) (hl : hL b0 ls 2 [none, none]) (h : X_X2_holds_54 G Qx   σ) : W p l e rm_X2_holds s m args below meth c H locs 0 0 (MQ below (va_Qi Qx (fun u t => Pw G D tc b0 u t) (AA b0)) args s 0 0 (AA b0)) (F0 m 54 ls []) := by
  have hx := C.1
  have hb := C.2.1
  unfold X_X2_holds_54 at h
  refine lv_iconst (v := (0 : Int32)) hx hb dX2_holds_54 (by decide) ?_
  exact t_X2_holds_55 C hr hS hW (hl.keep [false, false] rfl) h
set_option maxRecDepth 20000 in
set_option maxHeartbeats 4000000 in
theorem t_X2_holds_70 {p : Program} {l : Launch} {e : Env} {s : State} {m : MethodId} {args : Array Value} {below : List Frame} {meth : Method} {c : Code} {H : Heap} {locs : List Loc} {D : va_G} {tc : Nat → ClassId} {b0 : Nat} {ls : Array Slot} {G : Lay} {Qx : Int32 → Mem → Prop}  {k0 : Int32} {σ : Mem} (C : Cx p s m args meth c cX2_holds RX2 2 D tc b0) (hr : meth.sig.returnType = (some FieldType.boolean)) (hS : va_S (AA b0) s.heap H locs) (hW : Wd G D tc b0 σ H) (hl : hL b0 ls 2 [none, none]) (h : X_X2_holds_70 G Qx  k0 σ) : W p l e rm_X2_holds s m args below meth c H locs 0 0 (MQ below (va_Qi Qx (fun u t => Pw G D tc b0 u t) (AA b0)) args s 0 0 (AA b0)) (F0 m 70 ls [.int k0]) := by
  have hx := C.1
  have hb := C.2.1
  unfold X_X2_holds_70 at h
  exact r_z C hr hW hS h.1 h.2 dX2_holds_70
set_option maxRecDepth 20000 in
set_option maxHeartbeats 4000000 in
theorem t_X2_holds_65 {p : Program} {l : Launch} {e : Env} {s : State} {m : MethodId} {args : Array Value} {below : List Frame} {meth : Method} {c : Code} {H : Heap} {locs : List Loc} {D : va_G} {tc : Nat → ClassId} {b0 : Nat} {ls : Array Slot} {G : Lay} {Qx : Int32 → Mem → Prop}   {σ : Mem} (C : Cx p s m args meth c cX2_holds RX2 2 D tc b0) (hr : meth.sig.returnType = (some FieldType.boolean)) (hS : va_S (AA b0) s.heap H locs) (hW : Wd G D tc b0 σ H) (hl : hL b0 ls 2 [none, none]) (h : X_X2_holds_65 G Qx   σ) : W p l e rm_X2_holds s m args below meth c H locs 0 0 (MQ below (va_Qi Qx (fun u t => Pw G D tc b0 u t) (AA b0)) args s 0 0 (AA b0)) (F0 m 65 ls []) := by
  have hx := C.1
  have hb := C.2.1
  unfold X_X2_holds_65 at h
  refine lv_iconst (v := (1 : Int32)) hx hb dX2_holds_65 (by decide) ?_
  refine lv_goto hx hb dX2_holds_66 (tgt := 70) rfl ?_
  exact t_X2_holds_70 C hr hS hW (hl.keep [false, false] rfl) h
set_option maxRecDepth 20000 in
set_option maxHeartbeats 4000000 in
theorem t_X2_holds_88 {p : Program} {l : Launch} {e : Env} {s : State} {m : MethodId} {args : Array Value} {below : List Frame} {meth : Method} {c : Code} {H : Heap} {locs : List Loc} {D : va_G} {tc : Nat → ClassId} {b0 : Nat} {ls : Array Slot} {G : Lay} {Qx : Int32 → Mem → Prop}  {k0 : Int32} {σ : Mem} (C : Cx p s m args meth c cX2_holds RX2 2 D tc b0) (hr : meth.sig.returnType = (some FieldType.boolean)) (hS : va_S (AA b0) s.heap H locs) (hW : Wd G D tc b0 σ H) (hl : hL b0 ls 2 [none, none]) (h : X_X2_holds_88 G Qx  k0 σ) : W p l e rm_X2_holds s m args below meth c H locs 0 0 (MQ below (va_Qi Qx (fun u t => Pw G D tc b0 u t) (AA b0)) args s 0 0 (AA b0)) (F0 m 88 ls [.int k0]) := by
  have hx := C.1
  have hb := C.2.1
  unfold X_X2_holds_88 at h
  exact r_z C hr hW hS h.1 h.2 dX2_holds_88
set_option maxRecDepth 20000 in
set_option maxHeartbeats 4000000 in
theorem t_X2_holds_87 {p : Program} {l : Launch} {e : Env} {s : State} {m : MethodId} {args : Array Value} {below : List Frame} {meth : Method} {c : Code} {H : Heap} {locs : List Loc} {D : va_G} {tc : Nat → ClassId} {b0 : Nat} {ls : Array Slot} {G : Lay} {Qx : Int32 → Mem → Prop}   {σ : Mem} (C : Cx p s m args meth c cX2_holds RX2 2 D tc b0) (hr : meth.sig.returnType = (some FieldType.boolean)) (hS : va_S (AA b0) s.heap H locs) (hW : Wd G D tc b0 σ H) (hl : hL b0 ls 2 [none, none]) (h : X_X2_holds_87 G Qx   σ) : W p l e rm_X2_holds s m args below meth c H locs 0 0 (MQ below (va_Qi Qx (fun u t => Pw G D tc b0 u t) (AA b0)) args s 0 0 (AA b0)) (F0 m 87 ls []) := by
  have hx := C.1
  have hb := C.2.1
  unfold X_X2_holds_87 at h
  refine lv_iconst (v := (0 : Int32)) hx hb dX2_holds_87 (by decide) ?_
  exact t_X2_holds_88 C hr hS hW (hl.keep [false, false] rfl) h
set_option maxRecDepth 20000 in
set_option maxHeartbeats 4000000 in
theorem t_X2_holds_0 {p : Program} {l : Launch} {e : Env} {s : State} {m : MethodId} {args : Array Value} {below : List Frame} {meth : Method} {c : Code} {H : Heap} {locs : List Loc} {D : va_G} {tc : Nat → ClassId} {b0 : Nat} {ls : Array Slot} {G : Lay} {Qx : Int32 → Mem → Prop} {l0 : Nat} {l1 : Int32}  {σ : Mem} (C : Cx p s m args meth c cX2_holds RX2 2 D tc b0) (hr : meth.sig.returnType = (some FieldType.boolean)) (hS : va_S (AA b0) s.heap H locs) (hW : Wd G D tc b0 σ H) (hl : hL b0 ls 2 [some (.inr (.inr l0)), some (.inl l1)]) (h : X_X2_holds_0 G Qx l0 l1  σ) : W p l e rm_X2_holds s m args below meth c H locs 0 0 (MQ below (va_Qi Qx (fun u t => Pw G D tc b0 u t) (AA b0)) args s 0 0 (AA b0)) (F0 m 0 ls []) := by
  have hx := C.1
  have hb := C.2.1
  unfold X_X2_holds_0 at h
  refine x_aload_n C hl dX2_holds_0 rfl ?_
  have t1 := h.1
  replace h := h.2
  refine x_get C hW (t := 2) (k := 2) t1 kl_2 (by decide) fl_X2_31 (v := .int (mI σ l0 2)) rfl dX2_holds_1 ?_
  by_cases hc0 : (mI σ l0 2) = 0
  · replace h := h.1 hc0
    rw [hc0]
    refine lv_tableIn hx hb dX2_holds_4 (by decide) (by decide) (off := 32) rfl (tgt := 36) rfl ?_
    refine lv_iconst (v := (1 : Int32)) hx hb dX2_holds_36 (by decide) ?_
    exact r_z C hr hW hS h.1 h.2 dX2_holds_37
  replace h := h.2
  by_cases hc1 : (mI σ l0 2) = 1
  · replace h := h.1 hc1
    rw [hc1]
    refine lv_tableIn hx hb dX2_holds_4 (by decide) (by decide) (off := 34) rfl (tgt := 38) rfl ?_
    refine x_iload_n C hl dX2_holds_38 rfl ?_
    refine lv_bipush (v := (-128 : Int32)) hx hb dX2_holds_39 (by decide) ?_
    refine lv_icmp_lt hx hb dX2_holds_41 (tgt := 54) rfl (fun hc => ?_) (fun hc => ?_)
    · replace h := h.1 hc
      exact t_X2_holds_54 C hr hS hW (hl.keep [false, false] rfl) h
    · replace h := h.2 hc
      refine x_iload_n C hl dX2_holds_44 rfl ?_
      refine lv_bipush (v := (127 : Int32)) hx hb dX2_holds_45 (by decide) ?_
      refine lv_icmp_gt hx hb dX2_holds_47 (tgt := 54) rfl (fun hc => ?_) (fun hc => ?_)
      · replace h := h.1 hc
        exact t_X2_holds_54 C hr hS hW (hl.keep [false, false] rfl) h
      · replace h := h.2 hc
        refine lv_iconst (v := (1 : Int32)) hx hb dX2_holds_50 (by decide) ?_
        refine lv_goto hx hb dX2_holds_51 (tgt := 55) rfl ?_
        exact t_X2_holds_55 C hr hS hW (hl.keep [false, false] rfl) h
  replace h := h.2
  by_cases hc2 : (mI σ l0 2) = 2
  · replace h := h.1 hc2
    rw [hc2]
    refine lv_tableIn hx hb dX2_holds_4 (by decide) (by decide) (off := 52) rfl (tgt := 56) rfl ?_
    refine x_iload_n C hl dX2_holds_56 rfl ?_
    refine lv_if_eq hx hb dX2_holds_57 (tgt := 65) rfl (fun hc => ?_) (fun hc => ?_)
    · replace h := h.1 hc
      exact t_X2_holds_65 C hr hS hW (hl.keep [false, false] rfl) h
    · replace h := h.2 hc
      refine x_iload_n C hl dX2_holds_60 rfl ?_
      refine lv_iconst (v := (1 : Int32)) hx hb dX2_holds_61 (by decide) ?_
      refine lv_icmp_ne hx hb dX2_holds_62 (tgt := 69) rfl (fun hc => ?_) (fun hc => ?_)
      · replace h := h.2 hc
        refine lv_iconst (v := (0 : Int32)) hx hb dX2_holds_69 (by decide) ?_
        exact t_X2_holds_70 C hr hS hW (hl.keep [false, false] rfl) h
      · replace h := h.1 hc
        exact t_X2_holds_65 C hr hS hW (hl.keep [false, false] rfl) h
  replace h := h.2
  by_cases hc3 : (mI σ l0 2) = 3
  · replace h := h.1 hc3
    rw [hc3]
    refine lv_tableIn hx hb dX2_holds_4 (by decide) (by decide) (off := 67) rfl (tgt := 71) rfl ?_
    refine x_iload_n C hl dX2_holds_71 rfl ?_
    refine lv_if_lt hx hb dX2_holds_72 (tgt := 87) rfl (fun hc => ?_) (fun hc => ?_)
    · replace h := h.1 hc
      exact t_X2_holds_87 C hr hS hW (hl.keep [false, false] rfl) h
    · replace h := h.2 hc
      refine x_iload_n C hl dX2_holds_75 rfl ?_
      refine x_aload_n C hl dX2_holds_76 rfl ?_
      refine x_get C hW (t := 2) (k := 5) t1 kl_2 (by decide) fl_X2_22 (v := .int (mI σ l0 5)) rfl dX2_holds_77 ?_
      refine lv_icmp_ge hx hb dX2_holds_80 (tgt := 87) rfl (fun hc => ?_) (fun hc => ?_)
      · replace h := h.1 hc
        exact t_X2_holds_87 C hr hS hW (hl.keep [false, false] rfl) h
      · replace h := h.2 hc
        refine lv_iconst (v := (1 : Int32)) hx hb dX2_holds_83 (by decide) ?_
        refine lv_goto hx hb dX2_holds_84 (tgt := 88) rfl ?_
        exact t_X2_holds_88 C hr hS hW (hl.keep [false, false] rfl) h
  replace h := h.2
  replace h := h ⟨hc0, hc1, hc2, hc3⟩
  refine lv_tableOut hx hb dX2_holds_4 (tb_out4 hc0 hc1 hc2 hc3) (tgt := 89) rfl ?_
  refine lv_iconst (v := (0 : Int32)) hx hb dX2_holds_89 (by decide) ?_
  exact r_z C hr hW hS h.1 h.2 dX2_holds_90
theorem T_X2_holds (l : Launch) {G : Lay} {D : va_G} {tc : Nat → ClassId} {b0 : Nat} (l0 : Nat) (l1 : Int32) (σ : Mem) (Qx : Int32 → Mem → Prop) (h : X_X2_holds G Qx l0 l1 σ) : MI l yX2_holds cX2_holds 2 ((some FieldType.boolean)) rm_X2_holds G D tc b0 [rv b0 l0, .int l1] σ Qx :=
  x_entry (y := yX2_holds) [.inr (.inr l0), .inl l1] 0 (by decide) (Nat.le_of_ble_eq_true rfl) (fun p e s m args below meth c ls C hr hW hl => t_X2_holds_0 C hr va_S.rf hW (hl.keep [true, true] rfl) h)
/-! X3_begin -/
set_option maxRecDepth 20000 in
set_option maxHeartbeats 4000000 in
theorem t_X3_begin_0 {p : Program} {l : Launch} {e : Env} {s : State} {m : MethodId} {args : Array Value} {below : List Frame} {meth : Method} {c : Code} {H : Heap} {locs : List Loc} {D : va_G} {tc : Nat → ClassId} {b0 : Nat} {ls : Array Slot} {G : Lay} {Qx : Mem → Prop} {l0 : Nat} {l1 : Int32}  {σ : Mem} (C : Cx p s m args meth c cX3_begin RX3 2 D tc b0) (hr : meth.sig.returnType = (none : Option FieldType)) (hS : va_S (AA b0) s.heap H locs) (hW : Wd G D tc b0 σ H) (hl : hL b0 ls 2 [some (.inr (.inr l0)), some (.inl l1)]) (h : X_X3_begin_0 G Qx l0 l1  σ) : W p l e rm_X3_begin s m args below meth c H locs 0 0 (MQ below (va_Qv Qx (fun u t => Pw G D tc b0 u t) (AA b0)) args s 0 0 (AA b0)) (F0 m 0 ls []) := by
  have hx := C.1
  have hb := C.2.1
  unfold X_X3_begin_0 at h
  refine x_aload_n C hl dX3_begin_0 rfl ?_
  refine x_iload_n C hl dX3_begin_1 rfl ?_
  have t1 := h.1
  replace h := h.2
  refine x_putI C hW hS (t := 3) (k := 0) t1 kl_3 (by decide) fl_X3_18 rfl rfl rfl rfl dX3_begin_2 (fun H locs hW hS => ?_)
  obtain ⟨s2, e_s2⟩ : ∃ z : Mem, z = (sI σ l0 0 l1) := ⟨_, rfl⟩
  replace h := h s2 e_s2
  replace hW : Wd G D tc b0 s2 H := by rw [e_s2]; exact hW
  refine x_aload_n C hl dX3_begin_5 rfl ?_
  refine lv_iconst (v := (0 : Int32)) hx hb dX3_begin_6 (by decide) ?_
  refine x_putI C hW hS (t := 3) (k := 1) t1 kl_3 (by decide) fl_X3_22 rfl rfl rfl rfl dX3_begin_7 (fun H locs hW hS => ?_)
  obtain ⟨s3, e_s3⟩ : ∃ z : Mem, z = (sI s2 l0 1 (0 : Int32)) := ⟨_, rfl⟩
  replace h := h s3 e_s3
  replace hW : Wd G D tc b0 s3 H := by rw [e_s3]; exact hW
  exact r_v C hr hW hS h dX3_begin_10
theorem T_X3_begin (l : Launch) {G : Lay} {D : va_G} {tc : Nat → ClassId} {b0 : Nat} (l0 : Nat) (l1 : Int32) (σ : Mem) (Qx : Mem → Prop) (h : X_X3_begin G Qx l0 l1 σ) : MV l yX3_begin cX3_begin 2 ((none : Option FieldType)) rm_X3_begin G D tc b0 [rv b0 l0, .int l1] σ Qx :=
  x_entry (y := yX3_begin) [.inr (.inr l0), .inl l1] 0 (by decide) (Nat.le_of_ble_eq_true rfl) (fun p e s m args below meth c ls C hr hW hl => t_X3_begin_0 C hr va_S.rf hW (hl.keep [true, true] rfl) h)
/-! X3_add -/
set_option maxRecDepth 20000 in
set_option maxHeartbeats 4000000 in
theorem t_X3_add_32 {p : Program} {l : Launch} {e : Env} {s : State} {m : MethodId} {args : Array Value} {below : List Frame} {meth : Method} {c : Code} {H : Heap} {locs : List Loc} {D : va_G} {tc : Nat → ClassId} {b0 : Nat} {ls : Array Slot} {G : Lay} {Qx : Mem → Prop}   {σ : Mem} (C : Cx p s m args meth c cX3_add RX3 2 D tc b0) (hr : meth.sig.returnType = (none : Option FieldType)) (hS : va_S (AA b0) s.heap H locs) (hW : Wd G D tc b0 σ H) (hl : hL b0 ls 2 [none, none]) (h : X_X3_add_32 G Qx   σ) : W p l e rm_X3_add s m args below meth c H locs 0 0 (MQ below (va_Qv Qx (fun u t => Pw G D tc b0 u t) (AA b0)) args s 0 0 (AA b0)) (F0 m 32 ls []) := by
  have hx := C.1
  have hb := C.2.1
  unfold X_X3_add_32 at h
  exact r_v C hr hW hS h dX3_add_32
set_option maxRecDepth 20000 in
set_option maxHeartbeats 4000000 in
theorem t_X3_add_0 {p : Program} {l : Launch} {e : Env} {s : State} {m : MethodId} {args : Array Value} {below : List Frame} {meth : Method} {c : Code} {H : Heap} {locs : List Loc} {D : va_G} {tc : Nat → ClassId} {b0 : Nat} {ls : Array Slot} {G : Lay} {Qx : Mem → Prop} {l0 : Nat} {l1 : Int32}  {σ : Mem} (C : Cx p s m args meth c cX3_add RX3 2 D tc b0) (hr : meth.sig.returnType = (none : Option FieldType)) (hS : va_S (AA b0) s.heap H locs) (hW : Wd G D tc b0 σ H) (hl : hL b0 ls 2 [some (.inr (.inr l0)), some (.inl l1)]) (h : X_X3_add_0 G Qx l0 l1  σ) : W p l e rm_X3_add s m args below meth c H locs 0 0 (MQ below (va_Qv Qx (fun u t => Pw G D tc b0 u t) (AA b0)) args s 0 0 (AA b0)) (F0 m 0 ls []) := by
  have hx := C.1
  have hb := C.2.1
  unfold X_X3_add_0 at h
  refine x_aload_n C hl dX3_add_0 rfl ?_
  have t1 := h.1
  replace h := h.2
  refine x_get C hW (t := 3) (k := 1) t1 kl_3 (by decide) fl_X3_22 (v := .int (mI σ l0 1)) rfl dX3_add_1 ?_
  refine x_aload_n C hl dX3_add_4 rfl ?_
  refine x_get C hW (t := 3) (k := 2) t1 kl_3 (by decide) fl_X3_9 (v := rv b0 (mR σ l0 2)) rfl dX3_add_5 ?_
  have t2 := h.1
  replace h := h.2
  refine x_alen C hW (t := 99) (t0 := 0) t2 (by decide) rfl dX3_add_8 ?_
  refine lv_icmp_ge hx hb dX3_add_9 (tgt := 32) rfl (fun hc => ?_) (fun hc => ?_)
  · replace h := h.1 hc
    exact t_X3_add_32 C hr hS hW (hl.keep [false, false] rfl) h
  · replace h := h.2 hc
    refine x_aload_n C hl dX3_add_12 rfl ?_
    refine x_get C hW (t := 3) (k := 2) t1 kl_3 (by decide) fl_X3_9 (v := rv b0 (mR σ l0 2)) rfl dX3_add_13 ?_
    refine x_aload_n C hl dX3_add_16 rfl ?_
    refine x_get C hW (t := 3) (k := 1) t1 kl_3 (by decide) fl_X3_22 (v := .int (mI σ l0 1)) rfl dX3_add_17 ?_
    refine x_iload_n C hl dX3_add_20 rfl ?_
    have v3 := h.1
    replace h := h.2
    refine x_iast C hW hS t2 v3 dX3_add_21 (fun H locs hW hS => ?_)
    obtain ⟨s4, e_s4⟩ : ∃ z : Mem, z = (sI σ (mR σ l0 2) (mI σ l0 1).toNatClampNeg l1) := ⟨_, rfl⟩
    replace h := h s4 e_s4
    replace hW : Wd G D tc b0 s4 H := by rw [e_s4]; exact hW
    refine x_aload_n C hl dX3_add_22 rfl ?_
    refine lv_dup hx hb dX3_add_23 (rv_cat _ _) ?_
    refine x_get C hW (t := 3) (k := 1) t1 kl_3 (by decide) fl_X3_22 (v := .int (mI s4 l0 1)) rfl dX3_add_24 ?_
    refine lv_iconst (v := (1 : Int32)) hx hb dX3_add_27 (by decide) ?_
    refine lv_iadd hx hb dX3_add_28 ?_
    refine x_putI C hW hS (t := 3) (k := 1) t1 kl_3 (by decide) fl_X3_22 rfl rfl rfl rfl dX3_add_29 (fun H locs hW hS => ?_)
    obtain ⟨s5, e_s5⟩ : ∃ z : Mem, z = (sI s4 l0 1 ((mI s4 l0 1) + (1 : Int32))) := ⟨_, rfl⟩
    replace h := h s5 e_s5
    replace hW : Wd G D tc b0 s5 H := by rw [e_s5]; exact hW
    exact t_X3_add_32 C hr hS hW (hl.keep [false, false] rfl) h
theorem T_X3_add (l : Launch) {G : Lay} {D : va_G} {tc : Nat → ClassId} {b0 : Nat} (l0 : Nat) (l1 : Int32) (σ : Mem) (Qx : Mem → Prop) (h : X_X3_add G Qx l0 l1 σ) : MV l yX3_add cX3_add 2 ((none : Option FieldType)) rm_X3_add G D tc b0 [rv b0 l0, .int l1] σ Qx :=
  x_entry (y := yX3_add) [.inr (.inr l0), .inl l1] 0 (by decide) (Nat.le_of_ble_eq_true rfl) (fun p e s m args below meth c ls C hr hW hl => t_X3_add_0 C hr va_S.rf hW (hl.keep [true, true] rfl) h)
/-! X3_set -/
set_option maxRecDepth 20000 in
set_option maxHeartbeats 4000000 in
theorem t_X3_set_19 {p : Program} {l : Launch} {e : Env} {s : State} {m : MethodId} {args : Array Value} {below : List Frame} {meth : Method} {c : Code} {H : Heap} {locs : List Loc} {D : va_G} {tc : Nat → ClassId} {b0 : Nat} {ls : Array Slot} {G : Lay} {Qx : Mem → Prop}   {σ : Mem} (C : Cx p s m args meth c cX3_set RX3 3 D tc b0) (hr : meth.sig.returnType = (none : Option FieldType)) (hS : va_S (AA b0) s.heap H locs) (hW : Wd G D tc b0 σ H) (hl : hL b0 ls 3 [none, none, none]) (h : X_X3_set_19 G Qx   σ) : W p l e rm_X3_set s m args below meth c H locs 0 0 (MQ below (va_Qv Qx (fun u t => Pw G D tc b0 u t) (AA b0)) args s 0 0 (AA b0)) (F0 m 19 ls []) := by
  have hx := C.1
  have hb := C.2.1
  unfold X_X3_set_19 at h
  exact r_v C hr hW hS h dX3_set_19
set_option maxRecDepth 20000 in
set_option maxHeartbeats 4000000 in
theorem t_X3_set_0 {p : Program} {l : Launch} {e : Env} {s : State} {m : MethodId} {args : Array Value} {below : List Frame} {meth : Method} {c : Code} {H : Heap} {locs : List Loc} {D : va_G} {tc : Nat → ClassId} {b0 : Nat} {ls : Array Slot} {G : Lay} {Qx : Mem → Prop} {l0 : Nat} {l1 : Int32} {l2 : Int32}  {σ : Mem} (C : Cx p s m args meth c cX3_set RX3 3 D tc b0) (hr : meth.sig.returnType = (none : Option FieldType)) (hS : va_S (AA b0) s.heap H locs) (hW : Wd G D tc b0 σ H) (hl : hL b0 ls 3 [some (.inr (.inr l0)), some (.inl l1), some (.inl l2)]) (h : X_X3_set_0 G Qx l0 l1 l2  σ) : W p l e rm_X3_set s m args below meth c H locs 0 0 (MQ below (va_Qv Qx (fun u t => Pw G D tc b0 u t) (AA b0)) args s 0 0 (AA b0)) (F0 m 0 ls []) := by
  have hx := C.1
  have hb := C.2.1
  unfold X_X3_set_0 at h
  refine x_iload_n C hl dX3_set_0 rfl ?_
  refine lv_if_lt hx hb dX3_set_1 (tgt := 19) rfl (fun hc => ?_) (fun hc => ?_)
  · replace h := h.1 hc
    exact t_X3_set_19 C hr hS hW (hl.keep [false, false, false] rfl) h
  · replace h := h.2 hc
    refine x_iload_n C hl dX3_set_4 rfl ?_
    refine x_aload_n C hl dX3_set_5 rfl ?_
    have t1 := h.1
    replace h := h.2
    refine x_get C hW (t := 3) (k := 1) t1 kl_3 (by decide) fl_X3_22 (v := .int (mI σ l0 1)) rfl dX3_set_6 ?_
    refine lv_icmp_ge hx hb dX3_set_9 (tgt := 19) rfl (fun hc => ?_) (fun hc => ?_)
    · replace h := h.1 hc
      exact t_X3_set_19 C hr hS hW (hl.keep [false, false, false] rfl) h
    · replace h := h.2 hc
      refine x_aload_n C hl dX3_set_12 rfl ?_
      refine x_get C hW (t := 3) (k := 2) t1 kl_3 (by decide) fl_X3_9 (v := rv b0 (mR σ l0 2)) rfl dX3_set_13 ?_
      refine x_iload_n C hl dX3_set_16 rfl ?_
      refine x_iload_n C hl dX3_set_17 rfl ?_
      have t2 := h.1
      replace h := h.2
      have v3 := h.1
      replace h := h.2
      refine x_iast C hW hS t2 v3 dX3_set_18 (fun H locs hW hS => ?_)
      obtain ⟨s4, e_s4⟩ : ∃ z : Mem, z = (sI σ (mR σ l0 2) l1.toNatClampNeg l2) := ⟨_, rfl⟩
      replace h := h s4 e_s4
      replace hW : Wd G D tc b0 s4 H := by rw [e_s4]; exact hW
      exact t_X3_set_19 C hr hS hW (hl.keep [false, false, false] rfl) h
theorem T_X3_set (l : Launch) {G : Lay} {D : va_G} {tc : Nat → ClassId} {b0 : Nat} (l0 : Nat) (l1 : Int32) (l2 : Int32) (σ : Mem) (Qx : Mem → Prop) (h : X_X3_set G Qx l0 l1 l2 σ) : MV l yX3_set cX3_set 3 ((none : Option FieldType)) rm_X3_set G D tc b0 [rv b0 l0, .int l1, .int l2] σ Qx :=
  x_entry (y := yX3_set) [.inr (.inr l0), .inl l1, .inl l2] 0 (by decide) (Nat.le_of_ble_eq_true rfl) (fun p e s m args below meth c ls C hr hW hl => t_X3_set_0 C hr va_S.rf hW (hl.keep [true, true, true] rfl) h)
/-! X5_get -/
set_option maxRecDepth 20000 in
set_option maxHeartbeats 4000000 in
theorem t_X5_get_0 {p : Program} {l : Launch} {e : Env} {s : State} {m : MethodId} {args : Array Value} {below : List Frame} {meth : Method} {c : Code} {H : Heap} {locs : List Loc} {D : va_G} {tc : Nat → ClassId} {b0 : Nat} {ls : Array Slot} {G : Lay} {Qx : Int32 → Mem → Prop} {l0 : Nat} {l1 : Int32} {l2 : Int32}  {σ : Mem} (C : Cx p s m args meth c cX5_get RX5 3 D tc b0) (hr : meth.sig.returnType = (some FieldType.int)) (hS : va_S (AA b0) s.heap H locs) (hW : Wd G D tc b0 σ H) (hl : hL b0 ls 3 [some (.inr (.inr l0)), some (.inl l1), some (.inl l2)]) (h : X_X5_get_0 G Qx l0 l1 l2  σ) : W p l e rm_X5_get s m args below meth c H locs 0 0 (MQ below (va_Qi Qx (fun u t => Pw G D tc b0 u t) (AA b0)) args s 0 0 (AA b0)) (F0 m 0 ls []) := by
  have hx := C.1
  have hb := C.2.1
  unfold X_X5_get_0 at h
  refine x_aload_n C hl dX5_get_0 rfl ?_
  have t1 := h.1
  replace h := h.2
  refine x_get C hW (t := 5) (k := 5) t1 kl_5 (by decide) fl_X5_24 (v := rv b0 (mR σ l0 5)) rfl dX5_get_1 ?_
  refine x_iload_n C hl dX5_get_4 rfl ?_
  refine lv_bipush (v := (16 : Int32)) hx hb dX5_get_5 (by decide) ?_
  refine lv_imul hx hb dX5_get_7 ?_
  refine x_iload_n C hl dX5_get_8 rfl ?_
  refine lv_iadd hx hb dX5_get_9 ?_
  have t2 := h.1
  replace h := h.2
  have v3 := h.1
  replace h := h.2
  refine x_iald C hW t2 v3 dX5_get_10 ?_
  exact r_i C hr hW hS h dX5_get_11
theorem T_X5_get (l : Launch) {G : Lay} {D : va_G} {tc : Nat → ClassId} {b0 : Nat} (l0 : Nat) (l1 : Int32) (l2 : Int32) (σ : Mem) (Qx : Int32 → Mem → Prop) (h : X_X5_get G Qx l0 l1 l2 σ) : MI l yX5_get cX5_get 3 ((some FieldType.int)) rm_X5_get G D tc b0 [rv b0 l0, .int l1, .int l2] σ Qx :=
  x_entry (y := yX5_get) [.inr (.inr l0), .inl l1, .inl l2] 0 (by decide) (Nat.le_of_ble_eq_true rfl) (fun p e s m args below meth c ls C hr hW hl => t_X5_get_0 C hr va_S.rf hW (hl.keep [true, true, true] rfl) h)
/-! X6_rootOf -/
set_option maxRecDepth 20000 in
set_option maxHeartbeats 4000000 in
theorem t_X6_rootOf_25 {p : Program} {l : Launch} {e : Env} {s : State} {m : MethodId} {args : Array Value} {below : List Frame} {meth : Method} {c : Code} {H : Heap} {locs : List Loc} {D : va_G} {tc : Nat → ClassId} {b0 : Nat} {ls : Array Slot} {G : Lay} {Qx : Int32 → Mem → Prop}  {k0 : Int32} {σ : Mem} (C : Cx p s m args meth c cX6_rootOf RX6 2 D tc b0) (hr : meth.sig.returnType = (some FieldType.int)) (hS : va_S (AA b0) s.heap H locs) (hW : Wd G D tc b0 σ H) (hl : hL b0 ls 2 [none, none]) (h : X_X6_rootOf_25 G Qx  k0 σ) : W p l e rm_X6_rootOf s m args below meth c H locs 0 0 (MQ below (va_Qi Qx (fun u t => Pw G D tc b0 u t) (AA b0)) args s 0 0 (AA b0)) (F0 m 25 ls [.int k0]) := by
  have hx := C.1
  have hb := C.2.1
  unfold X_X6_rootOf_25 at h
  exact r_i C hr hW hS h dX6_rootOf_25
set_option maxRecDepth 20000 in
set_option maxHeartbeats 4000000 in
theorem t_X6_rootOf_12 {p : Program} {l : Launch} {e : Env} {s : State} {m : MethodId} {args : Array Value} {below : List Frame} {meth : Method} {c : Code} {H : Heap} {locs : List Loc} {D : va_G} {tc : Nat → ClassId} {b0 : Nat} {ls : Array Slot} {G : Lay} {Qx : Int32 → Mem → Prop}   {σ : Mem} (C : Cx p s m args meth c cX6_rootOf RX6 2 D tc b0) (hr : meth.sig.returnType = (some FieldType.int)) (hS : va_S (AA b0) s.heap H locs) (hW : Wd G D tc b0 σ H) (hl : hL b0 ls 2 [none, none]) (h : X_X6_rootOf_12 G Qx   σ) : W p l e rm_X6_rootOf s m args below meth c H locs 0 0 (MQ below (va_Qi Qx (fun u t => Pw G D tc b0 u t) (AA b0)) args s 0 0 (AA b0)) (F0 m 12 ls []) := by
  have hx := C.1
  have hb := C.2.1
  unfold X_X6_rootOf_12 at h
  refine lv_iconst (v := (-1 : Int32)) hx hb dX6_rootOf_12 (by decide) ?_
  refine lv_goto hx hb dX6_rootOf_13 (tgt := 25) rfl ?_
  exact t_X6_rootOf_25 C hr hS hW (hl.keep [false, false] rfl) h
set_option maxRecDepth 20000 in
set_option maxHeartbeats 4000000 in
theorem t_X6_rootOf_0 {p : Program} {l : Launch} {e : Env} {s : State} {m : MethodId} {args : Array Value} {below : List Frame} {meth : Method} {c : Code} {H : Heap} {locs : List Loc} {D : va_G} {tc : Nat → ClassId} {b0 : Nat} {ls : Array Slot} {G : Lay} {Qx : Int32 → Mem → Prop} {l0 : Nat} {l1 : Int32}  {σ : Mem} (C : Cx p s m args meth c cX6_rootOf RX6 2 D tc b0) (hr : meth.sig.returnType = (some FieldType.int)) (hS : va_S (AA b0) s.heap H locs) (hW : Wd G D tc b0 σ H) (hl : hL b0 ls 2 [some (.inr (.inr l0)), some (.inl l1)]) (h : X_X6_rootOf_0 G Qx l0 l1  σ) : W p l e rm_X6_rootOf s m args below meth c H locs 0 0 (MQ below (va_Qi Qx (fun u t => Pw G D tc b0 u t) (AA b0)) args s 0 0 (AA b0)) (F0 m 0 ls []) := by
  have hx := C.1
  have hb := C.2.1
  unfold X_X6_rootOf_0 at h
  refine x_iload_n C hl dX6_rootOf_0 rfl ?_
  refine lv_if_lt hx hb dX6_rootOf_1 (tgt := 12) rfl (fun hc => ?_) (fun hc => ?_)
  · replace h := h.1 hc
    exact t_X6_rootOf_12 C hr hS hW (hl.keep [false, false] rfl) h
  · replace h := h.2 hc
    refine x_iload_n C hl dX6_rootOf_4 rfl ?_
    refine x_aload_n C hl dX6_rootOf_5 rfl ?_
    have t1 := h.1
    replace h := h.2
    refine x_get C hW (t := 6) (k := 0) t1 kl_6 (by decide) fl_X6_29 (v := .int (mI σ l0 0)) rfl dX6_rootOf_6 ?_
    refine lv_icmp_lt hx hb dX6_rootOf_9 (tgt := 16) rfl (fun hc => ?_) (fun hc => ?_)
    · replace h := h.1 hc
      refine x_aload_n C hl dX6_rootOf_16 rfl ?_
      refine x_get C hW (t := 6) (k := 1) t1 kl_6 (by decide) fl_X6_11 (v := rv b0 (mR σ l0 1)) rfl dX6_rootOf_17 ?_
      refine x_iload_n C hl dX6_rootOf_20 rfl ?_
      have t2 := h.1
      replace h := h.2
      have v3 := h.1
      replace h := h.2
      refine x_aald C hW (t := 103) (t0 := 4) t2 (by decide) rfl v3 dX6_rootOf_21 ?_
      have t4 := h.1
      replace h := h.2
      refine x_get C hW (t := 1) (k := 2) t4 kl_1 (by decide) fl_X6_39 (v := .int (mI σ (mR σ (mR σ l0 1) l1.toNatClampNeg) 2)) rfl dX6_rootOf_22 ?_
      exact t_X6_rootOf_25 C hr hS hW (hl.keep [false, false] rfl) h
    · replace h := h.2 hc
      exact t_X6_rootOf_12 C hr hS hW (hl.keep [false, false] rfl) h
theorem T_X6_rootOf (l : Launch) {G : Lay} {D : va_G} {tc : Nat → ClassId} {b0 : Nat} (l0 : Nat) (l1 : Int32) (σ : Mem) (Qx : Int32 → Mem → Prop) (h : X_X6_rootOf G Qx l0 l1 σ) : MI l yX6_rootOf cX6_rootOf 2 ((some FieldType.int)) rm_X6_rootOf G D tc b0 [rv b0 l0, .int l1] σ Qx :=
  x_entry (y := yX6_rootOf) [.inr (.inr l0), .inl l1] 0 (by decide) (Nat.le_of_ble_eq_true rfl) (fun p e s m args below meth c ls C hr hW hl => t_X6_rootOf_0 C hr va_S.rf hW (hl.keep [true, true] rfl) h)
/-! X5_rowOf -/
set_option maxRecDepth 20000 in
set_option maxHeartbeats 4000000 in
theorem t_X5_rowOf_10 {p : Program} {l : Launch} {e : Env} {s : State} {m : MethodId} {args : Array Value} {below : List Frame} {meth : Method} {c : Code} {H : Heap} {locs : List Loc} {D : va_G} {tc : Nat → ClassId} {b0 : Nat} {ls : Array Slot} {G : Lay} {Qx : Int32 → Mem → Prop}   {σ : Mem} (C : Cx p s m args meth c cX5_rowOf RX5 5 D tc b0) (hr : meth.sig.returnType = (some FieldType.int)) (hS : va_S (AA b0) s.heap H locs) (hW : Wd G D tc b0 σ H) (hl : hL b0 ls 5 [none, none, none, none, none]) (h : X_X5_rowOf_10 G Qx   σ) : W p l e rm_X5_rowOf s m args below meth c H locs 0 0 (MQ below (va_Qi Qx (fun u t => Pw G D tc b0 u t) (AA b0)) args s 0 0 (AA b0)) (F0 m 10 ls []) := by
  have hx := C.1
  have hb := C.2.1
  unfold X_X5_rowOf_10 at h
  refine lv_iconst (v := (-1 : Int32)) hx hb dX5_rowOf_10 (by decide) ?_
  exact r_i C hr hW hS h dX5_rowOf_11
set_option maxRecDepth 20000 in
set_option maxHeartbeats 4000000 in
theorem t_X5_rowOf_20_n {p : Program} {l : Launch} {e : Env} {s : State} {m : MethodId} {args : Array Value} {below : List Frame} {meth : Method} {c : Code} {D : va_G} {tc : Nat → ClassId} {b0 : Nat} {G : Lay} {Qx : Int32 → Mem → Prop} {l0 : Nat} {l1 : Int32} {l2 : Int32} {l3 : Int32} (C : Cx p s m args meth c cX5_rowOf RX5 5 D tc b0) (hr : meth.sig.returnType = (some FieldType.int)) (n : Nat) : ∀ (l4 : Int32) (σ : Mem) (H : Heap) (locs : List Loc) (ls : Array Slot), va_S (AA b0) s.heap H locs → Wd G D tc b0 σ H → hL b0 ls 5 [some (.inr (.inr l0)), some (.inl l1), some (.inl l2), some (.inl l3), some (.inl l4)] → Lp (X_X5_rowOf_20_s G Qx l0 l1 l2 l3) n (l4, σ) → W p l e rm_X5_rowOf s m args below meth c H locs 0 0 (MQ below (va_Qi Qx (fun u t => Pw G D tc b0 u t) (AA b0)) args s 0 0 (AA b0)) (F0 m 20 ls []) := by
  have hx := C.1
  have hb := C.2.1
  induction n with
  | zero => intro l4 σ H locs ls hS hW hl h; exact False.elim h
  | succ n hK20 =>
    intro l4 σ H locs ls hS hW hl h
    replace h : X_X5_rowOf_20_s G Qx l0 l1 l2 l3 (Lp (X_X5_rowOf_20_s G Qx l0 l1 l2 l3) n) (l4, σ) := h
    unfold X_X5_rowOf_20_s at h
    refine x_iload C hl dX5_rowOf_20 rfl ?_
    refine x_aload_n C hl dX5_rowOf_22 rfl ?_
    have t1 := h.1
    replace h := h.2
    refine x_get C hW (t := 5) (k := 1) t1 kl_5 (by decide) fl_X5_9 (v := rv b0 (mR σ l0 1)) rfl dX5_rowOf_23 ?_
    refine x_iload_n C hl dX5_rowOf_26 rfl ?_
    have t2 := h.1
    replace h := h.2
    have v3 := h.1
    replace h := h.2
    refine x_iald C hW t2 v3 dX5_rowOf_27 ?_
    refine lv_icmp_ge hx hb dX5_rowOf_28 (tgt := 55) rfl (fun hc => ?_) (fun hc => ?_)
    · replace h := h.1 hc
      refine lv_iconst (v := (-1 : Int32)) hx hb dX5_rowOf_55 (by decide) ?_
      exact r_i C hr hW hS h dX5_rowOf_56
    · replace h := h.2 hc
      refine x_aload_n C hl dX5_rowOf_31 rfl ?_
      refine x_get C hW (t := 5) (k := 2) t1 kl_5 (by decide) fl_X5_15 (v := rv b0 (mR σ l0 2)) rfl dX5_rowOf_32 ?_
      refine x_iload_n C hl dX5_rowOf_35 rfl ?_
      refine x_iload C hl dX5_rowOf_36 rfl ?_
      refine lv_iadd hx hb dX5_rowOf_38 ?_
      have t4 := h.1
      replace h := h.2
      have v5 := h.1
      replace h := h.2
      refine x_iald C hW t4 v5 dX5_rowOf_39 ?_
      refine x_iload_n C hl dX5_rowOf_40 rfl ?_
      refine lv_icmp_ne hx hb dX5_rowOf_41 (tgt := 49) rfl (fun hc => ?_) (fun hc => ?_)
      · replace h := h.2 hc
        refine x_iinc C hl dX5_rowOf_49 rfl (v := (1 : Int32)) (by decide) (by decide) rfl (fun ls hl => ?_)
        refine lv_goto hx hb dX5_rowOf_52 (tgt := 20) rfl ?_
        exact hK20 _ _ _ _ _ hS hW (hl.keep [true, true, true, true, true] rfl) h
      · replace h := h.1 hc
        refine x_iload_n C hl dX5_rowOf_44 rfl ?_
        refine x_iload C hl dX5_rowOf_45 rfl ?_
        refine lv_iadd hx hb dX5_rowOf_47 ?_
        exact r_i C hr hW hS h dX5_rowOf_48
set_option maxRecDepth 20000 in
set_option maxHeartbeats 4000000 in
theorem t_X5_rowOf_20 {p : Program} {l : Launch} {e : Env} {s : State} {m : MethodId} {args : Array Value} {below : List Frame} {meth : Method} {c : Code} {H : Heap} {locs : List Loc} {D : va_G} {tc : Nat → ClassId} {b0 : Nat} {ls : Array Slot} {G : Lay} {Qx : Int32 → Mem → Prop} {l0 : Nat} {l1 : Int32} {l2 : Int32} {l3 : Int32} {l4 : Int32}  {σ : Mem} (C : Cx p s m args meth c cX5_rowOf RX5 5 D tc b0) (hr : meth.sig.returnType = (some FieldType.int)) (hS : va_S (AA b0) s.heap H locs) (hW : Wd G D tc b0 σ H) (hl : hL b0 ls 5 [some (.inr (.inr l0)), some (.inl l1), some (.inl l2), some (.inl l3), some (.inl l4)]) (h : X_X5_rowOf_20 G Qx l0 l1 l2 l3 l4 σ) : W p l e rm_X5_rowOf s m args below meth c H locs 0 0 (MQ below (va_Qi Qx (fun u t => Pw G D tc b0 u t) (AA b0)) args s 0 0 (AA b0)) (F0 m 20 ls []) := by
  obtain ⟨n, h⟩ := h
  exact t_X5_rowOf_20_n C hr n l4 σ H locs ls hS hW hl h
set_option maxRecDepth 20000 in
set_option maxHeartbeats 4000000 in
theorem t_X5_rowOf_0 {p : Program} {l : Launch} {e : Env} {s : State} {m : MethodId} {args : Array Value} {below : List Frame} {meth : Method} {c : Code} {H : Heap} {locs : List Loc} {D : va_G} {tc : Nat → ClassId} {b0 : Nat} {ls : Array Slot} {G : Lay} {Qx : Int32 → Mem → Prop} {l0 : Nat} {l1 : Int32} {l2 : Int32}  {σ : Mem} (C : Cx p s m args meth c cX5_rowOf RX5 5 D tc b0) (hr : meth.sig.returnType = (some FieldType.int)) (hS : va_S (AA b0) s.heap H locs) (hW : Wd G D tc b0 σ H) (hl : hL b0 ls 5 [some (.inr (.inr l0)), some (.inl l1), some (.inl l2), none, none]) (h : X_X5_rowOf_0 G Qx l0 l1 l2  σ) : W p l e rm_X5_rowOf s m args below meth c H locs 0 0 (MQ below (va_Qi Qx (fun u t => Pw G D tc b0 u t) (AA b0)) args s 0 0 (AA b0)) (F0 m 0 ls []) := by
  have hx := C.1
  have hb := C.2.1
  unfold X_X5_rowOf_0 at h
  refine x_iload_n C hl dX5_rowOf_0 rfl ?_
  refine lv_if_lt hx hb dX5_rowOf_1 (tgt := 10) rfl (fun hc => ?_) (fun hc => ?_)
  · replace h := h.1 hc
    exact t_X5_rowOf_10 C hr hS hW (hl.keep [false, false, false, false, false] rfl) h
  · replace h := h.2 hc
    refine x_iload_n C hl dX5_rowOf_4 rfl ?_
    refine lv_bipush (v := (12 : Int32)) hx hb dX5_rowOf_5 (by decide) ?_
    refine lv_icmp_lt hx hb dX5_rowOf_7 (tgt := 12) rfl (fun hc => ?_) (fun hc => ?_)
    · replace h := h.1 hc
      refine x_iload_n C hl dX5_rowOf_12 rfl ?_
      refine lv_bipush (v := (60 : Int32)) hx hb dX5_rowOf_13 (by decide) ?_
      refine lv_imul hx hb dX5_rowOf_15 ?_
      refine x_istore_n C hl dX5_rowOf_16 (by decide) rfl (fun ls hl => ?_)
      refine lv_iconst (v := (0 : Int32)) hx hb dX5_rowOf_17 (by decide) ?_
      refine x_istore C hl dX5_rowOf_18 (by decide) rfl (fun ls hl => ?_)
      exact t_X5_rowOf_20 C hr hS hW (hl.keep [true, true, true, true, true] rfl) h
    · replace h := h.2 hc
      exact t_X5_rowOf_10 C hr hS hW (hl.keep [false, false, false, false, false] rfl) h
theorem T_X5_rowOf (l : Launch) {G : Lay} {D : va_G} {tc : Nat → ClassId} {b0 : Nat} (l0 : Nat) (l1 : Int32) (l2 : Int32) (σ : Mem) (Qx : Int32 → Mem → Prop) (h : X_X5_rowOf G Qx l0 l1 l2 σ) : MI l yX5_rowOf cX5_rowOf 5 ((some FieldType.int)) rm_X5_rowOf G D tc b0 [rv b0 l0, .int l1, .int l2] σ Qx :=
  x_entry (y := yX5_rowOf) [.inr (.inr l0), .inl l1, .inl l2] 2 (by decide) (Nat.le_of_ble_eq_true rfl) (fun p e s m args below meth c ls C hr hW hl => t_X5_rowOf_0 C hr va_S.rf hW (hl.keep [true, true, true, false, false] rfl) h)
/-! X5_rowLedTo -/
set_option maxRecDepth 20000 in
set_option maxHeartbeats 4000000 in
theorem t_X5_rowLedTo_28 {p : Program} {l : Launch} {e : Env} {s : State} {m : MethodId} {args : Array Value} {below : List Frame} {meth : Method} {c : Code} {H : Heap} {locs : List Loc} {D : va_G} {tc : Nat → ClassId} {b0 : Nat} {ls : Array Slot} {G : Lay} {Qx : Int32 → Mem → Prop}   {σ : Mem} (C : Cx p s m args meth c cX5_rowLedTo RX5 4 D tc b0) (hr : meth.sig.returnType = (some FieldType.int)) (hS : va_S (AA b0) s.heap H locs) (hW : Wd G D tc b0 σ H) (hl : hL b0 ls 4 [none, none, none, none]) (h : X_X5_rowLedTo_28 G Qx   σ) : W p l e rm_X5_rowLedTo s m args below meth c H locs 0 0 (MQ below (va_Qi Qx (fun u t => Pw G D tc b0 u t) (AA b0)) args s 0 0 (AA b0)) (F0 m 28 ls []) := by
  have hx := C.1
  have hb := C.2.1
  unfold X_X5_rowLedTo_28 at h
  refine lv_iconst (v := (-1 : Int32)) hx hb dX5_rowLedTo_28 (by decide) ?_
  exact r_i C hr hW hS h dX5_rowLedTo_29
set_option maxRecDepth 20000 in
set_option maxHeartbeats 4000000 in
theorem t_X5_rowLedTo_0 {p : Program} {l : Launch} {e : Env} {s : State} {m : MethodId} {args : Array Value} {below : List Frame} {meth : Method} {c : Code} {H : Heap} {locs : List Loc} {D : va_G} {tc : Nat → ClassId} {b0 : Nat} {ls : Array Slot} {G : Lay} {Qx : Int32 → Mem → Prop} {l0 : Nat} {l1 : Int32} {l2 : Int32}  {σ : Mem} (C : Cx p s m args meth c cX5_rowLedTo RX5 4 D tc b0) (hr : meth.sig.returnType = (some FieldType.int)) (hS : va_S (AA b0) s.heap H locs) (hW : Wd G D tc b0 σ H) (hl : hL b0 ls 4 [some (.inr (.inr l0)), some (.inl l1), some (.inl l2), none]) (h : X_X5_rowLedTo_0 G Qx l0 l1 l2  σ) : W p l e rm_X5_rowLedTo s m args below meth c H locs 0 0 (MQ below (va_Qi Qx (fun u t => Pw G D tc b0 u t) (AA b0)) args s 0 0 (AA b0)) (F0 m 0 ls []) := by
  have hx := C.1
  have hb := C.2.1
  unfold X_X5_rowLedTo_0 at h
  refine x_aload_n C hl dX5_rowLedTo_0 rfl ?_
  have t1 := h.1
  replace h := h.2
  refine x_get C hW (t := 5) (k := 0) t1 kl_5 (by decide) fl_X5_27 (v := rv b0 (mR σ l0 0)) rfl dX5_rowLedTo_1 ?_
  refine x_aload_n C hl dX5_rowLedTo_4 rfl ?_
  refine x_get C hW (t := 5) (k := 3) t1 kl_5 (by decide) fl_X5_18 (v := rv b0 (mR σ l0 3)) rfl dX5_rowLedTo_5 ?_
  refine x_iload_n C hl dX5_rowLedTo_8 rfl ?_
  have t2 := h.1
  replace h := h.2
  have v3 := h.1
  replace h := h.2
  refine x_iald C hW t2 v3 dX5_rowLedTo_9 ?_
  refine x_iload_n C hl dX5_rowLedTo_10 rfl ?_
  have t4 := h.1
  replace h := h.2
  refine y_r (x_run (As := [.int (mI σ (mR σ l0 3) l1.toNatClampNeg), .int l2]) C hW hS (T_X6_memberAt l (mR σ l0 0) (mI σ (mR σ l0 3) l1.toNatClampNeg) l2 σ _ h) t4 kl_6 (CW.of yv_X6_memberAt ml_X5_37) ⟨rfl, rfl, ⟨by decide, by decide⟩, by decide, by decide⟩ rfl hl.1 rfl (by decide) dX5_rowLedTo_11) hS (fun w6 s5 H locs h hW hS => ?_)
  refine x_astore_n C hl dX5_rowLedTo_14 (by decide) rfl (fun ls hl => ?_)
  refine x_aload_n C hl dX5_rowLedTo_15 rfl ?_
  refine x_ifnull C dX5_rowLedTo_16 (tgt := 28) rfl (fun hc => ?_) (fun hc => ?_)
  · replace h := h.1 hc
    exact t_X5_rowLedTo_28 C hr hS hW (hl.keep [false, false, false, false] rfl) h
  · replace h := h.2 hc
    refine x_aload_n C hl dX5_rowLedTo_19 rfl ?_
    refine x_iload_n C hl dX5_rowLedTo_20 rfl ?_
    refine x_iload_n C hl dX5_rowLedTo_21 rfl ?_
    refine y_i (x_run (As := [.int l1, .int l2]) C hW hS (T_X5_get l l0 l1 l2 s5 _ h) t1 kl_5 (CW.of yv_X5_get ml_X5_43) ⟨rfl, rfl, ⟨by decide, by decide⟩, by decide, by decide⟩ rfl hl.1 rfl (by decide) dX5_rowLedTo_22) hS (fun w8 s7 H locs h hW hS => ?_)
    refine lv_if_ne hx hb dX5_rowLedTo_25 (tgt := 30) rfl (fun hc => ?_) (fun hc => ?_)
    · replace h := h.2 hc
      refine x_aload_n C hl dX5_rowLedTo_30 rfl ?_
      refine x_aload_n C hl dX5_rowLedTo_31 rfl ?_
      refine x_get C hW (t := 5) (k := 0) t1 kl_5 (by decide) fl_X5_27 (v := rv b0 (mR s7 l0 0)) rfl dX5_rowLedTo_32 ?_
      refine x_aload_n C hl dX5_rowLedTo_35 rfl ?_
      have t9 := h.1
      replace h := h.2
      refine x_get C hW (t := 2) (k := 8) t9 kl_2 (by decide) fl_X5_47 (v := .int (mI s7 w6 8)) rfl dX5_rowLedTo_36 ?_
      have t10 := h.1
      replace h := h.2
      refine y_i (x_run (As := [.int (mI s7 w6 8)]) C hW hS (T_X6_rootOf l (mR s7 l0 0) (mI s7 w6 8) s7 _ h) t10 kl_6 (CW.of yv_X6_rootOf ml_X5_53) ⟨rfl, rfl, ⟨by decide, by decide⟩, by decide, by decide⟩ rfl hl.1 rfl (by simp [rv_cat, cat_i, cat_l]) dX5_rowLedTo_39) hS (fun w12 s11 H locs h hW hS => ?_)
      refine x_aload_n C hl dX5_rowLedTo_42 rfl ?_
      refine x_iload_n C hl dX5_rowLedTo_43 rfl ?_
      refine x_iload_n C hl dX5_rowLedTo_44 rfl ?_
      refine y_i (x_run (As := [.int l1, .int l2]) C hW hS (T_X5_get l l0 l1 l2 s11 _ h) t1 kl_5 (CW.of yv_X5_get ml_X5_43) ⟨rfl, rfl, ⟨by decide, by decide⟩, by decide, by decide⟩ rfl hl.1 rfl (by simp [rv_cat, cat_i, cat_l]) dX5_rowLedTo_45) hS (fun w14 s13 H locs h hW hS => ?_)
      refine y_i (x_run (As := [.int w12, .int w14]) C hW hS (T_X5_rowOf l l0 w12 w14 s13 _ h) t1 kl_5 (CW.of yv_X5_rowOf ml_X5_57) ⟨rfl, rfl, ⟨by decide, by decide⟩, by decide, by decide⟩ rfl hl.1 rfl (by decide) dX5_rowLedTo_48) hS (fun w16 s15 H locs h hW hS => ?_)
      exact r_i C hr hW hS h dX5_rowLedTo_51
    · replace h := h.1 hc
      exact t_X5_rowLedTo_28 C hr hS hW (hl.keep [false, false, false, false] rfl) h
theorem T_X5_rowLedTo (l : Launch) {G : Lay} {D : va_G} {tc : Nat → ClassId} {b0 : Nat} (l0 : Nat) (l1 : Int32) (l2 : Int32) (σ : Mem) (Qx : Int32 → Mem → Prop) (h : X_X5_rowLedTo G Qx l0 l1 l2 σ) : MI l yX5_rowLedTo cX5_rowLedTo 4 ((some FieldType.int)) rm_X5_rowLedTo G D tc b0 [rv b0 l0, .int l1, .int l2] σ Qx :=
  x_entry (y := yX5_rowLedTo) [.inr (.inr l0), .inl l1, .inl l2] 1 (by decide) (Nat.le_of_ble_eq_true rfl) (fun p e s m args below meth c ls C hr hW hl => t_X5_rowLedTo_0 C hr va_S.rf hW (hl.keep [true, true, true, false] rfl) h)
/-! X3_compares -/
set_option maxRecDepth 20000 in
set_option maxHeartbeats 4000000 in
theorem t_X3_compares_16 {p : Program} {l : Launch} {e : Env} {s : State} {m : MethodId} {args : Array Value} {below : List Frame} {meth : Method} {c : Code} {H : Heap} {locs : List Loc} {D : va_G} {tc : Nat → ClassId} {b0 : Nat} {ls : Array Slot} {G : Lay} {Qx : Int32 → Mem → Prop}  {k0 : Int32} {σ : Mem} (C : Cx p s m args meth c cX3_compares RX3 3 D tc b0) (hr : meth.sig.returnType = (some FieldType.boolean)) (hS : va_S (AA b0) s.heap H locs) (hW : Wd G D tc b0 σ H) (hl : hL b0 ls 3 [none, none, none]) (h : X_X3_compares_16 G Qx  k0 σ) : W p l e rm_X3_compares s m args below meth c H locs 0 0 (MQ below (va_Qi Qx (fun u t => Pw G D tc b0 u t) (AA b0)) args s 0 0 (AA b0)) (F0 m 16 ls [.int k0]) := by
  have hx := C.1
  have hb := C.2.1
  unfold X_X3_compares_16 at h
  exact r_z C hr hW hS h.1 h.2 dX3_compares_16
set_option maxRecDepth 20000 in
set_option maxHeartbeats 4000000 in
theorem t_X3_compares_46 {p : Program} {l : Launch} {e : Env} {s : State} {m : MethodId} {args : Array Value} {below : List Frame} {meth : Method} {c : Code} {H : Heap} {locs : List Loc} {D : va_G} {tc : Nat → ClassId} {b0 : Nat} {ls : Array Slot} {G : Lay} {Qx : Int32 → Mem → Prop}  {k0 : Int32} {σ : Mem} (C : Cx p s m args meth c cX3_compares RX3 3 D tc b0) (hr : meth.sig.returnType = (some FieldType.boolean)) (hS : va_S (AA b0) s.heap H locs) (hW : Wd G D tc b0 σ H) (hl : hL b0 ls 3 [none, none, none]) (h : X_X3_compares_46 G Qx  k0 σ) : W p l e rm_X3_compares s m args below meth c H locs 0 0 (MQ below (va_Qi Qx (fun u t => Pw G D tc b0 u t) (AA b0)) args s 0 0 (AA b0)) (F0 m 46 ls [.int k0]) := by
  have hx := C.1
  have hb := C.2.1
  unfold X_X3_compares_46 at h
  exact r_z C hr hW hS h.1 h.2 dX3_compares_46
set_option maxRecDepth 20000 in
set_option maxHeartbeats 4000000 in
theorem t_X3_compares_0 {p : Program} {l : Launch} {e : Env} {s : State} {m : MethodId} {args : Array Value} {below : List Frame} {meth : Method} {c : Code} {H : Heap} {locs : List Loc} {D : va_G} {tc : Nat → ClassId} {b0 : Nat} {ls : Array Slot} {G : Lay} {Qx : Int32 → Mem → Prop} {l0 : Int32} {l1 : Int32} {l2 : Int32}  {σ : Mem} (C : Cx p s m args meth c cX3_compares RX3 3 D tc b0) (hr : meth.sig.returnType = (some FieldType.boolean)) (hS : va_S (AA b0) s.heap H locs) (hW : Wd G D tc b0 σ H) (hl : hL b0 ls 3 [some (.inl l0), some (.inl l1), some (.inl l2)]) (h : X_X3_compares_0 G Qx l0 l1 l2  σ) : W p l e rm_X3_compares s m args below meth c H locs 0 0 (MQ below (va_Qi Qx (fun u t => Pw G D tc b0 u t) (AA b0)) args s 0 0 (AA b0)) (F0 m 0 ls []) := by
  have hx := C.1
  have hb := C.2.1
  unfold X_X3_compares_0 at h
  refine x_iload_n C hl dX3_compares_0 rfl ?_
  refine lv_bipush (v := (61 : Int32)) hx hb dX3_compares_1 (by decide) ?_
  refine lv_icmp_ne hx hb dX3_compares_3 (tgt := 17) rfl (fun hc => ?_) (fun hc => ?_)
  · replace h := h.2 hc
    refine x_iload_n C hl dX3_compares_17 rfl ?_
    refine lv_bipush (v := (60 : Int32)) hx hb dX3_compares_18 (by decide) ?_
    refine lv_icmp_ne hx hb dX3_compares_20 (tgt := 36) rfl (fun hc => ?_) (fun hc => ?_)
    · replace h := h.2 hc
      refine x_iload_n C hl dX3_compares_36 rfl ?_
      refine x_iload_n C hl dX3_compares_37 rfl ?_
      refine lv_icmp_le hx hb dX3_compares_38 (tgt := 45) rfl (fun hc => ?_) (fun hc => ?_)
      · replace h := h.1 hc
        refine lv_iconst (v := (0 : Int32)) hx hb dX3_compares_45 (by decide) ?_
        exact t_X3_compares_46 C hr hS hW (hl.keep [false, false, false] rfl) h
      · replace h := h.2 hc
        refine lv_iconst (v := (1 : Int32)) hx hb dX3_compares_41 (by decide) ?_
        refine lv_goto hx hb dX3_compares_42 (tgt := 46) rfl ?_
        exact t_X3_compares_46 C hr hS hW (hl.keep [false, false, false] rfl) h
    · replace h := h.1 hc
      refine x_iload_n C hl dX3_compares_23 rfl ?_
      refine x_iload_n C hl dX3_compares_24 rfl ?_
      refine lv_icmp_ge hx hb dX3_compares_25 (tgt := 32) rfl (fun hc => ?_) (fun hc => ?_)
      · replace h := h.1 hc
        refine lv_iconst (v := (0 : Int32)) hx hb dX3_compares_32 (by decide) ?_
        refine lv_goto hx hb dX3_compares_33 (tgt := 46) rfl ?_
        exact t_X3_compares_46 C hr hS hW (hl.keep [false, false, false] rfl) h
      · replace h := h.2 hc
        refine lv_iconst (v := (1 : Int32)) hx hb dX3_compares_28 (by decide) ?_
        refine lv_goto hx hb dX3_compares_29 (tgt := 46) rfl ?_
        exact t_X3_compares_46 C hr hS hW (hl.keep [false, false, false] rfl) h
  · replace h := h.1 hc
    refine x_iload_n C hl dX3_compares_6 rfl ?_
    refine x_iload_n C hl dX3_compares_7 rfl ?_
    refine lv_icmp_ne hx hb dX3_compares_8 (tgt := 15) rfl (fun hc => ?_) (fun hc => ?_)
    · replace h := h.2 hc
      refine lv_iconst (v := (0 : Int32)) hx hb dX3_compares_15 (by decide) ?_
      exact t_X3_compares_16 C hr hS hW (hl.keep [false, false, false] rfl) h
    · replace h := h.1 hc
      refine lv_iconst (v := (1 : Int32)) hx hb dX3_compares_11 (by decide) ?_
      refine lv_goto hx hb dX3_compares_12 (tgt := 16) rfl ?_
      exact t_X3_compares_16 C hr hS hW (hl.keep [false, false, false] rfl) h
theorem T_X3_compares (l : Launch) {G : Lay} {D : va_G} {tc : Nat → ClassId} {b0 : Nat} (l0 : Int32) (l1 : Int32) (l2 : Int32) (σ : Mem) (Qx : Int32 → Mem → Prop) (h : X_X3_compares G Qx l0 l1 l2 σ) : MI l yX3_compares cX3_compares 3 ((some FieldType.boolean)) rm_X3_compares G D tc b0 [.int l0, .int l1, .int l2] σ Qx :=
  x_entry (y := yX3_compares) [.inl l0, .inl l1, .inl l2] 0 (by decide) (Nat.le_of_ble_eq_true rfl) (fun p e s m args below meth c ls C hr hW hl => t_X3_compares_0 C hr va_S.rf hW (hl.keep [true, true, true] rfl) h)
/-! X3_truthOfTerm -/
set_option maxRecDepth 20000 in
set_option maxHeartbeats 4000000 in
theorem t_X3_truthOfTerm_139 {p : Program} {l : Launch} {e : Env} {s : State} {m : MethodId} {args : Array Value} {below : List Frame} {meth : Method} {c : Code} {H : Heap} {locs : List Loc} {D : va_G} {tc : Nat → ClassId} {b0 : Nat} {ls : Array Slot} {G : Lay} {Qx : Int32 → Mem → Prop}  {k0 : Int32} {σ : Mem} (C : Cx p s m args meth c cX3_truthOfTerm RX3 8 D tc b0) (hr : meth.sig.returnType = (some FieldType.int)) (hS : va_S (AA b0) s.heap H locs) (hW : Wd G D tc b0 σ H) (hl : hL b0 ls 8 [none, none, none, none, none, none, none, none]) (h : X_X3_truthOfTerm_139 G Qx  k0 σ) : W p l e rm_X3_truthOfTerm s m args below meth c H locs 0 0 (MQ below (va_Qi Qx (fun u t => Pw G D tc b0 u t) (AA b0)) args s 0 0 (AA b0)) (F0 m 139 ls [.int k0]) := by
  have hx := C.1
  have hb := C.2.1
  unfold X_X3_truthOfTerm_139 at h
  exact r_i C hr hW hS h dX3_truthOfTerm_139
set_option maxRecDepth 20000 in
set_option maxHeartbeats 4000000 in
theorem t_X3_truthOfTerm_127 {p : Program} {l : Launch} {e : Env} {s : State} {m : MethodId} {args : Array Value} {below : List Frame} {meth : Method} {c : Code} {H : Heap} {locs : List Loc} {D : va_G} {tc : Nat → ClassId} {b0 : Nat} {ls : Array Slot} {G : Lay} {Qx : Int32 → Mem → Prop}  {k0 : Int32} {σ : Mem} (C : Cx p s m args meth c cX3_truthOfTerm RX3 8 D tc b0) (hr : meth.sig.returnType = (some FieldType.int)) (hS : va_S (AA b0) s.heap H locs) (hW : Wd G D tc b0 σ H) (hl : hL b0 ls 8 [none, none, none, none, none, none, none, none]) (h : X_X3_truthOfTerm_127 G Qx  k0 σ) : W p l e rm_X3_truthOfTerm s m args below meth c H locs 0 0 (MQ below (va_Qi Qx (fun u t => Pw G D tc b0 u t) (AA b0)) args s 0 0 (AA b0)) (F0 m 127 ls [.int k0]) := by
  have hx := C.1
  have hb := C.2.1
  unfold X_X3_truthOfTerm_127 at h
  refine x_istore C hl dX3_truthOfTerm_127 (by decide) rfl (fun ls hl => ?_)
  refine x_iload C hl dX3_truthOfTerm_129 rfl ?_
  refine lv_if_eq hx hb dX3_truthOfTerm_131 (tgt := 138) rfl (fun hc => ?_) (fun hc => ?_)
  · replace h := h.1 hc
    refine lv_iconst (v := (0 : Int32)) hx hb dX3_truthOfTerm_138 (by decide) ?_
    exact t_X3_truthOfTerm_139 C hr hS hW (hl.keep [false, false, false, false, false, false, false, false] rfl) h
  · replace h := h.2 hc
    refine lv_iconst (v := (2 : Int32)) hx hb dX3_truthOfTerm_134 (by decide) ?_
    refine lv_goto hx hb dX3_truthOfTerm_135 (tgt := 139) rfl ?_
    exact t_X3_truthOfTerm_139 C hr hS hW (hl.keep [false, false, false, false, false, false, false, false] rfl) h
set_option maxRecDepth 20000 in
set_option maxHeartbeats 4000000 in
theorem t_X3_truthOfTerm_16_n {p : Program} {l : Launch} {e : Env} {s : State} {m : MethodId} {args : Array Value} {below : List Frame} {meth : Method} {c : Code} {D : va_G} {tc : Nat → ClassId} {b0 : Nat} {G : Lay} {Qx : Int32 → Mem → Prop} {l0 : Nat} {l1 : Nat} {l3 : Int32} {l4 : Int32} (C : Cx p s m args meth c cX3_truthOfTerm RX3 8 D tc b0) (hr : meth.sig.returnType = (some FieldType.int)) (n : Nat) : ∀ (l5 : Int32) (l6 : Int32) (σ : Mem) (H : Heap) (locs : List Loc) (ls : Array Slot), va_S (AA b0) s.heap H locs → Wd G D tc b0 σ H → hL b0 ls 8 [some (.inr (.inr l0)), some (.inr (.inr l1)), none, some (.inl l3), some (.inl l4), some (.inl l5), some (.inl l6), none] → Lp (X_X3_truthOfTerm_16_s G Qx l0 l1 l3 l4) n (l5, l6, σ) → W p l e rm_X3_truthOfTerm s m args below meth c H locs 0 0 (MQ below (va_Qi Qx (fun u t => Pw G D tc b0 u t) (AA b0)) args s 0 0 (AA b0)) (F0 m 16 ls []) := by
  have hx := C.1
  have hb := C.2.1
  induction n with
  | zero => intro l5 l6 σ H locs ls hS hW hl h; exact False.elim h
  | succ n hK16 =>
    intro l5 l6 σ H locs ls hS hW hl h
    replace h : X_X3_truthOfTerm_16_s G Qx l0 l1 l3 l4 (Lp (X_X3_truthOfTerm_16_s G Qx l0 l1 l3 l4) n) (l5, l6, σ) := h
    unfold X_X3_truthOfTerm_16_s at h
    refine x_iload C hl dX3_truthOfTerm_16 rfl ?_
    refine x_iload C hl dX3_truthOfTerm_18 rfl ?_
    refine lv_iconst (v := (1 : Int32)) hx hb dX3_truthOfTerm_20 (by decide) ?_
    refine lv_isub hx hb dX3_truthOfTerm_21 ?_
    refine lv_icmp_ge hx hb dX3_truthOfTerm_22 (tgt := 58) rfl (fun hc => ?_) (fun hc => ?_)
    · replace h := h.1 hc
      refine x_aload_n C hl dX3_truthOfTerm_58 rfl ?_
      refine x_iload C hl dX3_truthOfTerm_59 rfl ?_
      refine x_aload_n C hl dX3_truthOfTerm_61 rfl ?_
      have t1 := h.1
      replace h := h.2
      refine x_get C hW (t := 3) (k := 2) t1 kl_3 (by decide) fl_X3_9 (v := rv b0 (mR σ l0 2)) rfl dX3_truthOfTerm_62 ?_
      refine x_iload_n C hl dX3_truthOfTerm_65 rfl ?_
      refine lv_iconst (v := (1 : Int32)) hx hb dX3_truthOfTerm_66 (by decide) ?_
      refine lv_iadd hx hb dX3_truthOfTerm_67 ?_
      refine x_iload C hl dX3_truthOfTerm_68 rfl ?_
      refine lv_iadd hx hb dX3_truthOfTerm_70 ?_
      have t2 := h.1
      replace h := h.2
      have v3 := h.1
      replace h := h.2
      refine x_iald C hW t2 v3 dX3_truthOfTerm_71 ?_
      have t4 := h.1
      replace h := h.2
      refine y_i (x_run (As := [.int l5, .int (mI σ (mR σ l0 2) ((l3 + (1 : Int32)) + l4).toNatClampNeg)]) C hW hS (T_X5_get l l1 l5 (mI σ (mR σ l0 2) ((l3 + (1 : Int32)) + l4).toNatClampNeg) σ _ h) t4 kl_5 (CW.of yv_X5_get ml_X3_46) ⟨rfl, rfl, ⟨by decide, by decide⟩, by decide, by decide⟩ rfl hl.1 rfl (by decide) dX3_truthOfTerm_72) hS (fun w6 s5 H locs h hW hS => ?_)
      refine x_istore C hl dX3_truthOfTerm_75 (by decide) rfl (fun ls hl => ?_)
      refine x_aload_n C hl dX3_truthOfTerm_77 rfl ?_
      refine x_get C hW (t := 3) (k := 2) t1 kl_3 (by decide) fl_X3_9 (v := rv b0 (mR s5 l0 2)) rfl dX3_truthOfTerm_78 ?_
      refine x_iload_n C hl dX3_truthOfTerm_81 rfl ?_
      have t7 := h.1
      replace h := h.2
      have v8 := h.1
      replace h := h.2
      refine x_iald C hW t7 v8 dX3_truthOfTerm_82 ?_
      refine lv_iconst (v := (3 : Int32)) hx hb dX3_truthOfTerm_83 (by decide) ?_
      refine lv_icmp_ne hx hb dX3_truthOfTerm_84 (tgt := 100) rfl (fun hc => ?_) (fun hc => ?_)
      · replace h := h.2 hc
        refine x_iload C hl dX3_truthOfTerm_100 rfl ?_
        refine x_aload_n C hl dX3_truthOfTerm_102 rfl ?_
        refine x_get C hW (t := 3) (k := 2) t1 kl_3 (by decide) fl_X3_9 (v := rv b0 (mR s5 l0 2)) rfl dX3_truthOfTerm_103 ?_
        refine x_iload_n C hl dX3_truthOfTerm_106 rfl ?_
        refine lv_iconst (v := (2 : Int32)) hx hb dX3_truthOfTerm_107 (by decide) ?_
        refine lv_iadd hx hb dX3_truthOfTerm_108 ?_
        refine x_iload C hl dX3_truthOfTerm_109 rfl ?_
        refine lv_iadd hx hb dX3_truthOfTerm_111 ?_
        have v9 := h.1
        replace h := h.2
        refine x_iald C hW t7 v9 dX3_truthOfTerm_112 ?_
        refine x_aload_n C hl dX3_truthOfTerm_113 rfl ?_
        refine x_get C hW (t := 3) (k := 2) t1 kl_3 (by decide) fl_X3_9 (v := rv b0 (mR s5 l0 2)) rfl dX3_truthOfTerm_114 ?_
        refine x_iload_n C hl dX3_truthOfTerm_117 rfl ?_
        refine lv_iconst (v := (3 : Int32)) hx hb dX3_truthOfTerm_118 (by decide) ?_
        refine lv_iadd hx hb dX3_truthOfTerm_119 ?_
        refine x_iload C hl dX3_truthOfTerm_120 rfl ?_
        refine lv_iadd hx hb dX3_truthOfTerm_122 ?_
        have v10 := h.1
        replace h := h.2
        refine x_iald C hW t7 v10 dX3_truthOfTerm_123 ?_
        refine y_i (x_runS (As := [.int w6, .int (mI s5 (mR s5 l0 2) ((l3 + (2 : Int32)) + l4).toNatClampNeg), .int (mI s5 (mR s5 l0 2) ((l3 + (3 : Int32)) + l4).toNatClampNeg)]) C hW hS (T_X3_compares l w6 (mI s5 (mR s5 l0 2) ((l3 + (2 : Int32)) + l4).toNatClampNeg) (mI s5 (mR s5 l0 2) ((l3 + (3 : Int32)) + l4).toNatClampNeg) s5 _ h) (CS.of yv_X3_compares ml_X3_49) ⟨rfl, rfl, ⟨by decide, by decide⟩, by decide, by decide⟩ rfl hl.1 rfl (by decide) dX3_truthOfTerm_124) hS (fun w12 s11 H locs h hW hS => ?_)
        exact t_X3_truthOfTerm_127 C hr hS hW (hl.keep [false, false, false, false, false, false, false, false] rfl) h
      · replace h := h.1 hc
        refine x_iload C hl dX3_truthOfTerm_87 rfl ?_
        refine lv_if_ne hx hb dX3_truthOfTerm_89 (tgt := 96) rfl (fun hc => ?_) (fun hc => ?_)
        · replace h := h.2 hc
          refine lv_iconst (v := (0 : Int32)) hx hb dX3_truthOfTerm_96 (by decide) ?_
          refine lv_goto hx hb dX3_truthOfTerm_97 (tgt := 127) rfl ?_
          exact t_X3_truthOfTerm_127 C hr hS hW (hl.keep [false, false, false, false, false, false, false, false] rfl) h
        · replace h := h.1 hc
          refine lv_iconst (v := (1 : Int32)) hx hb dX3_truthOfTerm_92 (by decide) ?_
          refine lv_goto hx hb dX3_truthOfTerm_93 (tgt := 127) rfl ?_
          exact t_X3_truthOfTerm_127 C hr hS hW (hl.keep [false, false, false, false, false, false, false, false] rfl) h
    · replace h := h.2 hc
      refine x_aload_n C hl dX3_truthOfTerm_25 rfl ?_
      refine x_iload C hl dX3_truthOfTerm_26 rfl ?_
      refine x_aload_n C hl dX3_truthOfTerm_28 rfl ?_
      have t13 := h.1
      replace h := h.2
      refine x_get C hW (t := 3) (k := 2) t13 kl_3 (by decide) fl_X3_9 (v := rv b0 (mR σ l0 2)) rfl dX3_truthOfTerm_29 ?_
      refine x_iload_n C hl dX3_truthOfTerm_32 rfl ?_
      refine lv_iconst (v := (2 : Int32)) hx hb dX3_truthOfTerm_33 (by decide) ?_
      refine lv_iadd hx hb dX3_truthOfTerm_34 ?_
      refine x_iload C hl dX3_truthOfTerm_35 rfl ?_
      refine lv_iadd hx hb dX3_truthOfTerm_37 ?_
      have t14 := h.1
      replace h := h.2
      have v15 := h.1
      replace h := h.2
      refine x_iald C hW t14 v15 dX3_truthOfTerm_38 ?_
      have t16 := h.1
      replace h := h.2
      refine y_i (x_run (As := [.int l5, .int (mI σ (mR σ l0 2) ((l3 + (2 : Int32)) + l6).toNatClampNeg)]) C hW hS (T_X5_rowLedTo l l1 l5 (mI σ (mR σ l0 2) ((l3 + (2 : Int32)) + l6).toNatClampNeg) σ _ h) t16 kl_5 (CW.of yv_X5_rowLedTo ml_X3_41) ⟨rfl, rfl, ⟨by decide, by decide⟩, by decide, by decide⟩ rfl hl.1 rfl (by decide) dX3_truthOfTerm_39) hS (fun w18 s17 H locs h hW hS => ?_)
      refine x_istore C hl dX3_truthOfTerm_42 (by decide) rfl (fun ls hl => ?_)
      refine x_iload C hl dX3_truthOfTerm_44 rfl ?_
      refine lv_iconst (v := (-1 : Int32)) hx hb dX3_truthOfTerm_46 (by decide) ?_
      refine lv_icmp_ne hx hb dX3_truthOfTerm_47 (tgt := 52) rfl (fun hc => ?_) (fun hc => ?_)
      · replace h := h.2 hc
        refine x_iinc C hl dX3_truthOfTerm_52 rfl (v := (1 : Int32)) (by decide) (by decide) rfl (fun ls hl => ?_)
        refine lv_goto hx hb dX3_truthOfTerm_55 (tgt := 16) rfl ?_
        exact hK16 _ _ _ _ _ _ hS hW (hl.keep [true, true, false, true, true, true, true, false] rfl) h
      · replace h := h.1 hc
        refine lv_iconst (v := (1 : Int32)) hx hb dX3_truthOfTerm_50 (by decide) ?_
        exact r_i C hr hW hS h dX3_truthOfTerm_51
set_option maxRecDepth 20000 in
set_option maxHeartbeats 4000000 in
theorem t_X3_truthOfTerm_16 {p : Program} {l : Launch} {e : Env} {s : State} {m : MethodId} {args : Array Value} {below : List Frame} {meth : Method} {c : Code} {H : Heap} {locs : List Loc} {D : va_G} {tc : Nat → ClassId} {b0 : Nat} {ls : Array Slot} {G : Lay} {Qx : Int32 → Mem → Prop} {l0 : Nat} {l1 : Nat} {l3 : Int32} {l4 : Int32} {l5 : Int32} {l6 : Int32}  {σ : Mem} (C : Cx p s m args meth c cX3_truthOfTerm RX3 8 D tc b0) (hr : meth.sig.returnType = (some FieldType.int)) (hS : va_S (AA b0) s.heap H locs) (hW : Wd G D tc b0 σ H) (hl : hL b0 ls 8 [some (.inr (.inr l0)), some (.inr (.inr l1)), none, some (.inl l3), some (.inl l4), some (.inl l5), some (.inl l6), none]) (h : X_X3_truthOfTerm_16 G Qx l0 l1 l3 l4 l5 l6 σ) : W p l e rm_X3_truthOfTerm s m args below meth c H locs 0 0 (MQ below (va_Qi Qx (fun u t => Pw G D tc b0 u t) (AA b0)) args s 0 0 (AA b0)) (F0 m 16 ls []) := by
  obtain ⟨n, h⟩ := h
  exact t_X3_truthOfTerm_16_n C hr n l5 l6 σ H locs ls hS hW hl h
set_option maxRecDepth 20000 in
set_option maxHeartbeats 4000000 in
theorem t_X3_truthOfTerm_0 {p : Program} {l : Launch} {e : Env} {s : State} {m : MethodId} {args : Array Value} {below : List Frame} {meth : Method} {c : Code} {H : Heap} {locs : List Loc} {D : va_G} {tc : Nat → ClassId} {b0 : Nat} {ls : Array Slot} {G : Lay} {Qx : Int32 → Mem → Prop} {l0 : Nat} {l1 : Nat} {l2 : Int32} {l3 : Int32}  {σ : Mem} (C : Cx p s m args meth c cX3_truthOfTerm RX3 8 D tc b0) (hr : meth.sig.returnType = (some FieldType.int)) (hS : va_S (AA b0) s.heap H locs) (hW : Wd G D tc b0 σ H) (hl : hL b0 ls 8 [some (.inr (.inr l0)), some (.inr (.inr l1)), some (.inl l2), some (.inl l3), none, none, none, none]) (h : X_X3_truthOfTerm_0 G Qx l0 l1 l2 l3  σ) : W p l e rm_X3_truthOfTerm s m args below meth c H locs 0 0 (MQ below (va_Qi Qx (fun u t => Pw G D tc b0 u t) (AA b0)) args s 0 0 (AA b0)) (F0 m 0 ls []) := by
  have hx := C.1
  have hb := C.2.1
  unfold X_X3_truthOfTerm_0 at h
  refine x_aload_n C hl dX3_truthOfTerm_0 rfl ?_
  have t1 := h.1
  replace h := h.2
  refine x_get C hW (t := 3) (k := 2) t1 kl_3 (by decide) fl_X3_9 (v := rv b0 (mR σ l0 2)) rfl dX3_truthOfTerm_1 ?_
  refine x_iload_n C hl dX3_truthOfTerm_4 rfl ?_
  refine lv_iconst (v := (1 : Int32)) hx hb dX3_truthOfTerm_5 (by decide) ?_
  refine lv_iadd hx hb dX3_truthOfTerm_6 ?_
  have t2 := h.1
  replace h := h.2
  have v3 := h.1
  replace h := h.2
  refine x_iald C hW t2 v3 dX3_truthOfTerm_7 ?_
  refine x_istore C hl dX3_truthOfTerm_8 (by decide) rfl (fun ls hl => ?_)
  refine x_iload_n C hl dX3_truthOfTerm_10 rfl ?_
  refine x_istore C hl dX3_truthOfTerm_11 (by decide) rfl (fun ls hl => ?_)
  refine lv_iconst (v := (0 : Int32)) hx hb dX3_truthOfTerm_13 (by decide) ?_
  refine x_istore C hl dX3_truthOfTerm_14 (by decide) rfl (fun ls hl => ?_)
  exact t_X3_truthOfTerm_16 C hr hS hW (hl.keep [true, true, false, true, true, true, true, false] rfl) h
theorem T_X3_truthOfTerm (l : Launch) {G : Lay} {D : va_G} {tc : Nat → ClassId} {b0 : Nat} (l0 : Nat) (l1 : Nat) (l2 : Int32) (l3 : Int32) (σ : Mem) (Qx : Int32 → Mem → Prop) (h : X_X3_truthOfTerm G Qx l0 l1 l2 l3 σ) : MI l yX3_truthOfTerm cX3_truthOfTerm 8 ((some FieldType.int)) rm_X3_truthOfTerm G D tc b0 [rv b0 l0, rv b0 l1, .int l2, .int l3] σ Qx :=
  x_entry (y := yX3_truthOfTerm) [.inr (.inr l0), .inr (.inr l1), .inl l2, .inl l3] 4 (by decide) (Nat.le_of_ble_eq_true rfl) (fun p e s m args below meth c ls C hr hW hl => t_X3_truthOfTerm_0 C hr va_S.rf hW (hl.keep [true, true, true, true, false, false, false, false] rfl) h)
/-! X3_join -/
set_option maxRecDepth 20000 in
set_option maxHeartbeats 4000000 in
theorem t_X3_join_81 {p : Program} {l : Launch} {e : Env} {s : State} {m : MethodId} {args : Array Value} {below : List Frame} {meth : Method} {c : Code} {H : Heap} {locs : List Loc} {D : va_G} {tc : Nat → ClassId} {b0 : Nat} {ls : Array Slot} {G : Lay} {Qx : Int32 → Mem → Prop} {l2 : Int32} {k0 : Nat} {k1 : Int32} {k2 : Int32} {σ : Mem} (C : Cx p s m args meth c cX3_join RX3 5 D tc b0) (hr : meth.sig.returnType = (some FieldType.int)) (hS : va_S (AA b0) s.heap H locs) (hW : Wd G D tc b0 σ H) (hl : hL b0 ls 5 [none, none, some (.inl l2), none, none]) (h : X_X3_join_81 G Qx l2 k0 k1 k2 σ) : W p l e rm_X3_join s m args below meth c H locs 0 0 (MQ below (va_Qi Qx (fun u t => Pw G D tc b0 u t) (AA b0)) args s 0 0 (AA b0)) (F0 m 81 ls [.int k2, .int k1, rv b0 k0]) := by
  have hx := C.1
  have hb := C.2.1
  unfold X_X3_join_81 at h
  have t1 := h.1
  replace h := h.2
  have v2 := h.1
  replace h := h.2
  refine x_iast C hW hS t1 v2 dX3_join_81 (fun H locs hW hS => ?_)
  obtain ⟨s3, e_s3⟩ : ∃ z : Mem, z = (sI σ k0 k1.toNatClampNeg k2) := ⟨_, rfl⟩
  replace h := h s3 e_s3
  replace hW : Wd G D tc b0 s3 H := by rw [e_s3]; exact hW
  refine x_iload_n C hl dX3_join_82 rfl ?_
  refine lv_iconst (v := (1 : Int32)) hx hb dX3_join_83 (by decide) ?_
  refine lv_isub hx hb dX3_join_84 ?_
  exact r_i C hr hW hS h dX3_join_85
set_option maxRecDepth 20000 in
set_option maxHeartbeats 4000000 in
theorem t_X3_join_28 {p : Program} {l : Launch} {e : Env} {s : State} {m : MethodId} {args : Array Value} {below : List Frame} {meth : Method} {c : Code} {H : Heap} {locs : List Loc} {D : va_G} {tc : Nat → ClassId} {b0 : Nat} {ls : Array Slot} {G : Lay} {Qx : Int32 → Mem → Prop} {l0 : Nat} {l1 : Int32} {l2 : Int32}  {σ : Mem} (C : Cx p s m args meth c cX3_join RX3 5 D tc b0) (hr : meth.sig.returnType = (some FieldType.int)) (hS : va_S (AA b0) s.heap H locs) (hW : Wd G D tc b0 σ H) (hl : hL b0 ls 5 [some (.inr (.inr l0)), some (.inl l1), some (.inl l2), none, none]) (h : X_X3_join_28 G Qx l0 l1 l2  σ) : W p l e rm_X3_join s m args below meth c H locs 0 0 (MQ below (va_Qi Qx (fun u t => Pw G D tc b0 u t) (AA b0)) args s 0 0 (AA b0)) (F0 m 28 ls []) := by
  have hx := C.1
  have hb := C.2.1
  unfold X_X3_join_28 at h
  refine x_iload_n C hl dX3_join_28 rfl ?_
  refine lv_iconst (v := (2 : Int32)) hx hb dX3_join_29 (by decide) ?_
  refine lv_icmp_ge hx hb dX3_join_30 (tgt := 35) rfl (fun hc => ?_) (fun hc => ?_)
  · replace h := h.1 hc
    refine x_aload_n C hl dX3_join_35 rfl ?_
    have t1 := h.1
    replace h := h.2
    refine x_get C hW (t := 3) (k := 3) t1 kl_3 (by decide) fl_X3_15 (v := rv b0 (mR σ l0 3)) rfl dX3_join_36 ?_
    refine x_iload_n C hl dX3_join_39 rfl ?_
    refine lv_iconst (v := (2 : Int32)) hx hb dX3_join_40 (by decide) ?_
    refine lv_isub hx hb dX3_join_41 ?_
    have t2 := h.1
    replace h := h.2
    have v3 := h.1
    replace h := h.2
    refine x_iald C hW t2 v3 dX3_join_42 ?_
    refine x_istore_n C hl dX3_join_43 (by decide) rfl (fun ls hl => ?_)
    refine x_aload_n C hl dX3_join_44 rfl ?_
    refine x_get C hW (t := 3) (k := 3) t1 kl_3 (by decide) fl_X3_15 (v := rv b0 (mR σ l0 3)) rfl dX3_join_45 ?_
    refine x_iload_n C hl dX3_join_48 rfl ?_
    refine lv_iconst (v := (1 : Int32)) hx hb dX3_join_49 (by decide) ?_
    refine lv_isub hx hb dX3_join_50 ?_
    have v4 := h.1
    replace h := h.2
    refine x_iald C hW t2 v4 dX3_join_51 ?_
    refine x_istore C hl dX3_join_52 (by decide) rfl (fun ls hl => ?_)
    refine x_aload_n C hl dX3_join_54 rfl ?_
    refine x_get C hW (t := 3) (k := 3) t1 kl_3 (by decide) fl_X3_15 (v := rv b0 (mR σ l0 3)) rfl dX3_join_55 ?_
    refine x_iload_n C hl dX3_join_58 rfl ?_
    refine lv_iconst (v := (2 : Int32)) hx hb dX3_join_59 (by decide) ?_
    refine lv_isub hx hb dX3_join_60 ?_
    refine x_iload_n C hl dX3_join_61 rfl ?_
    refine lv_iconst (v := (1 : Int32)) hx hb dX3_join_62 (by decide) ?_
    refine lv_icmp_ne hx hb dX3_join_63 (tgt := 75) rfl (fun hc => ?_) (fun hc => ?_)
    · replace h := h.2 hc
      refine x_iload_n C hl dX3_join_75 rfl ?_
      refine x_iload C hl dX3_join_76 rfl ?_
      refine va_mmax (own := RX3) hx hb (C.2.2.1.trans hl.1.symm) C.2.2.2.1 (C.2.2.2.2.1 _ (gc6 213 rfl rfl)) (C.2.2.2.2.1 _ (gc3 124 rfl rfl)) (C.2.2.2.2.1 _ (gc1 16 rfl rfl)) (C.2.2.2.2.1 _ (gc3 125 rfl rfl)) (by decide) (by simp [rv_cat, cat_i, cat_l]) (by decide) (by decide) dX3_join_78 ?_
      exact t_X3_join_81 C hr hS hW (hl.keep [false, false, true, false, false] rfl) h
    · replace h := h.1 hc
      refine x_iload_n C hl dX3_join_66 rfl ?_
      refine x_iload C hl dX3_join_67 rfl ?_
      refine va_mmin (own := RX3) hx hb (C.2.2.1.trans hl.1.symm) C.2.2.2.1 (C.2.2.2.2.1 _ (gc6 212 rfl rfl)) (C.2.2.2.2.1 _ (gc3 127 rfl rfl)) (C.2.2.2.2.1 _ (gc1 16 rfl rfl)) (C.2.2.2.2.1 _ (gc3 128 rfl rfl)) (by decide) (by simp [rv_cat, cat_i, cat_l]) (by decide) (by decide) dX3_join_69 ?_
      refine lv_goto hx hb dX3_join_72 (tgt := 81) rfl ?_
      exact t_X3_join_81 C hr hS hW (hl.keep [false, false, true, false, false] rfl) h
  · replace h := h.2 hc
    refine x_iload_n C hl dX3_join_33 rfl ?_
    exact r_i C hr hW hS h dX3_join_34
set_option maxRecDepth 20000 in
set_option maxHeartbeats 4000000 in
theorem t_X3_join_0 {p : Program} {l : Launch} {e : Env} {s : State} {m : MethodId} {args : Array Value} {below : List Frame} {meth : Method} {c : Code} {H : Heap} {locs : List Loc} {D : va_G} {tc : Nat → ClassId} {b0 : Nat} {ls : Array Slot} {G : Lay} {Qx : Int32 → Mem → Prop} {l0 : Nat} {l1 : Int32} {l2 : Int32}  {σ : Mem} (C : Cx p s m args meth c cX3_join RX3 5 D tc b0) (hr : meth.sig.returnType = (some FieldType.int)) (hS : va_S (AA b0) s.heap H locs) (hW : Wd G D tc b0 σ H) (hl : hL b0 ls 5 [some (.inr (.inr l0)), some (.inl l1), some (.inl l2), none, none]) (h : X_X3_join_0 G Qx l0 l1 l2  σ) : W p l e rm_X3_join s m args below meth c H locs 0 0 (MQ below (va_Qi Qx (fun u t => Pw G D tc b0 u t) (AA b0)) args s 0 0 (AA b0)) (F0 m 0 ls []) := by
  have hx := C.1
  have hb := C.2.1
  unfold X_X3_join_0 at h
  refine x_iload_n C hl dX3_join_0 rfl ?_
  refine lv_if_ne hx hb dX3_join_1 (tgt := 28) rfl (fun hc => ?_) (fun hc => ?_)
  · replace h := h.2 hc
    exact t_X3_join_28 C hr hS hW (hl.keep [true, true, true, false, false] rfl) h
  · replace h := h.1 hc
    refine x_iload_n C hl dX3_join_4 rfl ?_
    refine lv_if_le hx hb dX3_join_5 (tgt := 28) rfl (fun hc => ?_) (fun hc => ?_)
    · replace h := h.1 hc
      exact t_X3_join_28 C hr hS hW (hl.keep [true, true, true, false, false] rfl) h
    · replace h := h.2 hc
      refine x_aload_n C hl dX3_join_8 rfl ?_
      have t1 := h.1
      replace h := h.2
      refine x_get C hW (t := 3) (k := 3) t1 kl_3 (by decide) fl_X3_15 (v := rv b0 (mR σ l0 3)) rfl dX3_join_9 ?_
      refine x_iload_n C hl dX3_join_12 rfl ?_
      refine lv_iconst (v := (1 : Int32)) hx hb dX3_join_13 (by decide) ?_
      refine lv_isub hx hb dX3_join_14 ?_
      refine lv_iconst (v := (2 : Int32)) hx hb dX3_join_15 (by decide) ?_
      refine x_aload_n C hl dX3_join_16 rfl ?_
      refine x_get C hW (t := 3) (k := 3) t1 kl_3 (by decide) fl_X3_15 (v := rv b0 (mR σ l0 3)) rfl dX3_join_17 ?_
      refine x_iload_n C hl dX3_join_20 rfl ?_
      refine lv_iconst (v := (1 : Int32)) hx hb dX3_join_21 (by decide) ?_
      refine lv_isub hx hb dX3_join_22 ?_
      have t2 := h.1
      replace h := h.2
      have v3 := h.1
      replace h := h.2
      refine x_iald C hW t2 v3 dX3_join_23 ?_
      refine lv_isub hx hb dX3_join_24 ?_
      refine x_iast C hW hS t2 v3 dX3_join_25 (fun H locs hW hS => ?_)
      obtain ⟨s4, e_s4⟩ : ∃ z : Mem, z = (sI σ (mR σ l0 3) (l2 - (1 : Int32)).toNatClampNeg ((2 : Int32) - (mI σ (mR σ l0 3) (l2 - (1 : Int32)).toNatClampNeg))) := ⟨_, rfl⟩
      replace h := h s4 e_s4
      replace hW : Wd G D tc b0 s4 H := by rw [e_s4]; exact hW
      refine x_iload_n C hl dX3_join_26 rfl ?_
      exact r_i C hr hW hS h dX3_join_27
theorem T_X3_join (l : Launch) {G : Lay} {D : va_G} {tc : Nat → ClassId} {b0 : Nat} (l0 : Nat) (l1 : Int32) (l2 : Int32) (σ : Mem) (Qx : Int32 → Mem → Prop) (h : X_X3_join G Qx l0 l1 l2 σ) : MI l yX3_join cX3_join 5 ((some FieldType.int)) rm_X3_join G D tc b0 [rv b0 l0, .int l1, .int l2] σ Qx :=
  x_entry (y := yX3_join) [.inr (.inr l0), .inl l1, .inl l2] 2 (by decide) (Nat.le_of_ble_eq_true rfl) (fun p e s m args below meth c ls C hr hW hl => t_X3_join_0 C hr va_S.rf hW (hl.keep [true, true, true, false, false] rfl) h)
/-! X3_isTrueOf -/
set_option maxRecDepth 20000 in
set_option maxHeartbeats 4000000 in
theorem t_X3_isTrueOf_110 {p : Program} {l : Launch} {e : Env} {s : State} {m : MethodId} {args : Array Value} {below : List Frame} {meth : Method} {c : Code} {H : Heap} {locs : List Loc} {D : va_G} {tc : Nat → ClassId} {b0 : Nat} {ls : Array Slot} {G : Lay} {Qx : Int32 → Mem → Prop} {l0 : Nat} {l1 : Nat} {l2 : Int32} {l3 : Int32} {l4 : Int32} {l5 : Int32}  {K8 : Int32 × Int32 × Int32 × Mem → Prop} {σ : Mem} (C : Cx p s m args meth c cX3_isTrueOf RX3 7 D tc b0) (hr : meth.sig.returnType = (some FieldType.boolean)) (hK8 : ∀ (x3 : Int32) (x4 : Int32) (x5 : Int32) (σ : Mem) (H : Heap) (locs : List Loc) (ls : Array Slot), va_S (AA b0) s.heap H locs → Wd G D tc b0 σ H → hL b0 ls 7 [some (.inr (.inr l0)), some (.inr (.inr l1)), some (.inl l2), some (.inl x3), some (.inl x4), some (.inl x5), none] → K8 (x3, x4, x5, σ) → W p l e rm_X3_isTrueOf s m args below meth c H locs 0 0 (MQ below (va_Qi Qx (fun u t => Pw G D tc b0 u t) (AA b0)) args s 0 0 (AA b0)) (F0 m 8 ls [])) (hS : va_S (AA b0) s.heap H locs) (hW : Wd G D tc b0 σ H) (hl : hL b0 ls 7 [some (.inr (.inr l0)), some (.inr (.inr l1)), some (.inl l2), some (.inl l3), some (.inl l4), some (.inl l5), none]) (h : X_X3_isTrueOf_110 G Qx K8 l0 l1 l2 l3 l4 l5  σ) : W p l e rm_X3_isTrueOf s m args below meth c H locs 0 0 (MQ below (va_Qi Qx (fun u t => Pw G D tc b0 u t) (AA b0)) args s 0 0 (AA b0)) (F0 m 110 ls []) := by
  have hx := C.1
  have hb := C.2.1
  unfold X_X3_isTrueOf_110 at h
  refine x_iinc C hl dX3_isTrueOf_110 rfl (v := (1 : Int32)) (by decide) (by decide) rfl (fun ls hl => ?_)
  refine lv_goto hx hb dX3_isTrueOf_113 (tgt := 8) rfl ?_
  exact hK8 _ _ _ _ _ _ _ hS hW (hl.keep [true, true, true, true, true, true, false] rfl) h
set_option maxRecDepth 20000 in
set_option maxHeartbeats 4000000 in
theorem t_X3_isTrueOf_92 {p : Program} {l : Launch} {e : Env} {s : State} {m : MethodId} {args : Array Value} {below : List Frame} {meth : Method} {c : Code} {H : Heap} {locs : List Loc} {D : va_G} {tc : Nat → ClassId} {b0 : Nat} {ls : Array Slot} {G : Lay} {Qx : Int32 → Mem → Prop} {l0 : Nat} {l1 : Nat} {l2 : Int32} {l3 : Int32} {l5 : Int32} {k0 : Int32} {k1 : Int32} {k2 : Int32} {K8 : Int32 × Int32 × Int32 × Mem → Prop} {σ : Mem} (C : Cx p s m args meth c cX3_isTrueOf RX3 7 D tc b0) (hr : meth.sig.returnType = (some FieldType.boolean)) (hK8 : ∀ (x3 : Int32) (x4 : Int32) (x5 : Int32) (σ : Mem) (H : Heap) (locs : List Loc) (ls : Array Slot), va_S (AA b0) s.heap H locs → Wd G D tc b0 σ H → hL b0 ls 7 [some (.inr (.inr l0)), some (.inr (.inr l1)), some (.inl l2), some (.inl x3), some (.inl x4), some (.inl x5), none] → K8 (x3, x4, x5, σ) → W p l e rm_X3_isTrueOf s m args below meth c H locs 0 0 (MQ below (va_Qi Qx (fun u t => Pw G D tc b0 u t) (AA b0)) args s 0 0 (AA b0)) (F0 m 8 ls [])) (hS : va_S (AA b0) s.heap H locs) (hW : Wd G D tc b0 σ H) (hl : hL b0 ls 7 [some (.inr (.inr l0)), some (.inr (.inr l1)), some (.inl l2), some (.inl l3), none, some (.inl l5), none]) (h : X_X3_isTrueOf_92 G Qx K8 l0 l1 l2 l3 l5 k0 k1 k2 σ) : W p l e rm_X3_isTrueOf s m args below meth c H locs 0 0 (MQ below (va_Qi Qx (fun u t => Pw G D tc b0 u t) (AA b0)) args s 0 0 (AA b0)) (F0 m 92 ls [.int k2, .int k1, .int k0]) := by
  have hx := C.1
  have hb := C.2.1
  unfold X_X3_isTrueOf_92 at h
  refine lv_iadd hx hb dX3_isTrueOf_92 ?_
  refine lv_iadd hx hb dX3_isTrueOf_93 ?_
  refine x_istore C hl dX3_isTrueOf_94 (by decide) rfl (fun ls hl => ?_)
  refine lv_goto hx hb dX3_isTrueOf_96 (tgt := 110) rfl ?_
  exact t_X3_isTrueOf_110 C hr hK8 hS hW (hl.keep [true, true, true, true, true, true, false] rfl) h
set_option maxRecDepth 20000 in
set_option maxHeartbeats 4000000 in
theorem t_X3_isTrueOf_70 {p : Program} {l : Launch} {e : Env} {s : State} {m : MethodId} {args : Array Value} {below : List Frame} {meth : Method} {c : Code} {H : Heap} {locs : List Loc} {D : va_G} {tc : Nat → ClassId} {b0 : Nat} {ls : Array Slot} {G : Lay} {Qx : Int32 → Mem → Prop} {l0 : Nat} {l1 : Nat} {l2 : Int32} {l3 : Int32} {l4 : Int32} {l5 : Int32} {l6 : Int32}  {K8 : Int32 × Int32 × Int32 × Mem → Prop} {σ : Mem} (C : Cx p s m args meth c cX3_isTrueOf RX3 7 D tc b0) (hr : meth.sig.returnType = (some FieldType.boolean)) (hK8 : ∀ (x3 : Int32) (x4 : Int32) (x5 : Int32) (σ : Mem) (H : Heap) (locs : List Loc) (ls : Array Slot), va_S (AA b0) s.heap H locs → Wd G D tc b0 σ H → hL b0 ls 7 [some (.inr (.inr l0)), some (.inr (.inr l1)), some (.inl l2), some (.inl x3), some (.inl x4), some (.inl x5), none] → K8 (x3, x4, x5, σ) → W p l e rm_X3_isTrueOf s m args below meth c H locs 0 0 (MQ below (va_Qi Qx (fun u t => Pw G D tc b0 u t) (AA b0)) args s 0 0 (AA b0)) (F0 m 8 ls [])) (hS : va_S (AA b0) s.heap H locs) (hW : Wd G D tc b0 σ H) (hl : hL b0 ls 7 [some (.inr (.inr l0)), some (.inr (.inr l1)), some (.inl l2), some (.inl l3), some (.inl l4), some (.inl l5), some (.inl l6)]) (h : X_X3_isTrueOf_70 G Qx K8 l0 l1 l2 l3 l4 l5 l6  σ) : W p l e rm_X3_isTrueOf s m args below meth c H locs 0 0 (MQ below (va_Qi Qx (fun u t => Pw G D tc b0 u t) (AA b0)) args s 0 0 (AA b0)) (F0 m 70 ls []) := by
  have hx := C.1
  have hb := C.2.1
  unfold X_X3_isTrueOf_70 at h
  refine x_iload C hl dX3_isTrueOf_70 rfl ?_
  refine x_aload_n C hl dX3_isTrueOf_72 rfl ?_
  have t1 := h.1
  replace h := h.2
  refine x_get C hW (t := 3) (k := 2) t1 kl_3 (by decide) fl_X3_9 (v := rv b0 (mR σ l0 2)) rfl dX3_isTrueOf_73 ?_
  refine x_iload C hl dX3_isTrueOf_76 rfl ?_
  refine lv_iconst (v := (1 : Int32)) hx hb dX3_isTrueOf_78 (by decide) ?_
  refine lv_iadd hx hb dX3_isTrueOf_79 ?_
  have t2 := h.1
  replace h := h.2
  have v3 := h.1
  replace h := h.2
  refine x_iald C hW t2 v3 dX3_isTrueOf_80 ?_
  refine x_iload C hl dX3_isTrueOf_81 rfl ?_
  refine lv_iconst (v := (3 : Int32)) hx hb dX3_isTrueOf_83 (by decide) ?_
  refine lv_icmp_ne hx hb dX3_isTrueOf_84 (tgt := 91) rfl (fun hc => ?_) (fun hc => ?_)
  · replace h := h.2 hc
    refine lv_iconst (v := (4 : Int32)) hx hb dX3_isTrueOf_91 (by decide) ?_
    exact t_X3_isTrueOf_92 C hr hK8 hS hW (hl.keep [true, true, true, true, false, true, false] rfl) h
  · replace h := h.1 hc
    refine lv_iconst (v := (2 : Int32)) hx hb dX3_isTrueOf_87 (by decide) ?_
    refine lv_goto hx hb dX3_isTrueOf_88 (tgt := 92) rfl ?_
    exact t_X3_isTrueOf_92 C hr hK8 hS hW (hl.keep [true, true, true, true, false, true, false] rfl) h
set_option maxRecDepth 20000 in
set_option maxHeartbeats 4000000 in
theorem t_X3_isTrueOf_47 {p : Program} {l : Launch} {e : Env} {s : State} {m : MethodId} {args : Array Value} {below : List Frame} {meth : Method} {c : Code} {H : Heap} {locs : List Loc} {D : va_G} {tc : Nat → ClassId} {b0 : Nat} {ls : Array Slot} {G : Lay} {Qx : Int32 → Mem → Prop} {l0 : Nat} {l1 : Nat} {l2 : Int32} {l3 : Int32} {l4 : Int32} {l5 : Int32} {l6 : Int32}  {K8 : Int32 × Int32 × Int32 × Mem → Prop} {σ : Mem} (C : Cx p s m args meth c cX3_isTrueOf RX3 7 D tc b0) (hr : meth.sig.returnType = (some FieldType.boolean)) (hK8 : ∀ (x3 : Int32) (x4 : Int32) (x5 : Int32) (σ : Mem) (H : Heap) (locs : List Loc) (ls : Array Slot), va_S (AA b0) s.heap H locs → Wd G D tc b0 σ H → hL b0 ls 7 [some (.inr (.inr l0)), some (.inr (.inr l1)), some (.inl l2), some (.inl x3), some (.inl x4), some (.inl x5), none] → K8 (x3, x4, x5, σ) → W p l e rm_X3_isTrueOf s m args below meth c H locs 0 0 (MQ below (va_Qi Qx (fun u t => Pw G D tc b0 u t) (AA b0)) args s 0 0 (AA b0)) (F0 m 8 ls [])) (hS : va_S (AA b0) s.heap H locs) (hW : Wd G D tc b0 σ H) (hl : hL b0 ls 7 [some (.inr (.inr l0)), some (.inr (.inr l1)), some (.inl l2), some (.inl l3), some (.inl l4), some (.inl l5), some (.inl l6)]) (h : X_X3_isTrueOf_47 G Qx K8 l0 l1 l2 l3 l4 l5 l6  σ) : W p l e rm_X3_isTrueOf s m args below meth c H locs 0 0 (MQ below (va_Qi Qx (fun u t => Pw G D tc b0 u t) (AA b0)) args s 0 0 (AA b0)) (F0 m 47 ls []) := by
  have hx := C.1
  have hb := C.2.1
  unfold X_X3_isTrueOf_47 at h
  refine x_iload_n C hl dX3_isTrueOf_47 rfl ?_
  refine lv_bipush (v := (64 : Int32)) hx hb dX3_isTrueOf_48 (by decide) ?_
  refine lv_icmp_ge hx hb dX3_isTrueOf_50 (tgt := 70) rfl (fun hc => ?_) (fun hc => ?_)
  · replace h := h.1 hc
    exact t_X3_isTrueOf_70 C hr hK8 hS hW (hl.keep [true, true, true, true, true, true, true] rfl) h
  · replace h := h.2 hc
    refine x_aload_n C hl dX3_isTrueOf_53 rfl ?_
    have t1 := h.1
    replace h := h.2
    refine x_get C hW (t := 3) (k := 3) t1 kl_3 (by decide) fl_X3_15 (v := rv b0 (mR σ l0 3)) rfl dX3_isTrueOf_54 ?_
    refine x_iload_n C hl dX3_isTrueOf_57 rfl ?_
    refine x_aload_n C hl dX3_isTrueOf_58 rfl ?_
    refine x_aload_n C hl dX3_isTrueOf_59 rfl ?_
    refine x_iload_n C hl dX3_isTrueOf_60 rfl ?_
    refine x_iload C hl dX3_isTrueOf_61 rfl ?_
    refine y_i (x_run (As := [rv b0 l1, .int l2, .int l4]) C hW hS (T_X3_truthOfTerm l l0 l1 l2 l4 σ _ h) t1 kl_3 (CW.of yv_X3_truthOfTerm ml_X3_25) ⟨rfl, rfl, ⟨by decide, by decide⟩, by decide, by decide⟩ rfl hl.1 rfl (by simp [rv_cat, cat_i, cat_l]) dX3_isTrueOf_63) hS (fun w3 s2 H locs h hW hS => ?_)
    have t4 := h.1
    replace h := h.2
    have v5 := h.1
    replace h := h.2
    refine x_iast C hW hS t4 v5 dX3_isTrueOf_66 (fun H locs hW hS => ?_)
    obtain ⟨s6, e_s6⟩ : ∃ z : Mem, z = (sI s2 (mR σ l0 3) l3.toNatClampNeg w3) := ⟨_, rfl⟩
    replace h := h s6 e_s6
    replace hW : Wd G D tc b0 s6 H := by rw [e_s6]; exact hW
    refine x_iinc C hl dX3_isTrueOf_67 rfl (v := (1 : Int32)) (by decide) (by decide) rfl (fun ls hl => ?_)
    exact t_X3_isTrueOf_70 C hr hK8 hS hW (hl.keep [true, true, true, true, true, true, true] rfl) h
set_option maxRecDepth 20000 in
set_option maxHeartbeats 4000000 in
theorem t_X3_isTrueOf_137 {p : Program} {l : Launch} {e : Env} {s : State} {m : MethodId} {args : Array Value} {below : List Frame} {meth : Method} {c : Code} {H : Heap} {locs : List Loc} {D : va_G} {tc : Nat → ClassId} {b0 : Nat} {ls : Array Slot} {G : Lay} {Qx : Int32 → Mem → Prop}  {k0 : Int32} {σ : Mem} (C : Cx p s m args meth c cX3_isTrueOf RX3 7 D tc b0) (hr : meth.sig.returnType = (some FieldType.boolean)) (hS : va_S (AA b0) s.heap H locs) (hW : Wd G D tc b0 σ H) (hl : hL b0 ls 7 [none, none, none, none, none, none, none]) (h : X_X3_isTrueOf_137 G Qx  k0 σ) : W p l e rm_X3_isTrueOf s m args below meth c H locs 0 0 (MQ below (va_Qi Qx (fun u t => Pw G D tc b0 u t) (AA b0)) args s 0 0 (AA b0)) (F0 m 137 ls [.int k0]) := by
  have hx := C.1
  have hb := C.2.1
  unfold X_X3_isTrueOf_137 at h
  exact r_z C hr hW hS h.1 h.2 dX3_isTrueOf_137
set_option maxRecDepth 20000 in
set_option maxHeartbeats 4000000 in
theorem t_X3_isTrueOf_132 {p : Program} {l : Launch} {e : Env} {s : State} {m : MethodId} {args : Array Value} {below : List Frame} {meth : Method} {c : Code} {H : Heap} {locs : List Loc} {D : va_G} {tc : Nat → ClassId} {b0 : Nat} {ls : Array Slot} {G : Lay} {Qx : Int32 → Mem → Prop}   {σ : Mem} (C : Cx p s m args meth c cX3_isTrueOf RX3 7 D tc b0) (hr : meth.sig.returnType = (some FieldType.boolean)) (hS : va_S (AA b0) s.heap H locs) (hW : Wd G D tc b0 σ H) (hl : hL b0 ls 7 [none, none, none, none, none, none, none]) (h : X_X3_isTrueOf_132 G Qx   σ) : W p l e rm_X3_isTrueOf s m args below meth c H locs 0 0 (MQ below (va_Qi Qx (fun u t => Pw G D tc b0 u t) (AA b0)) args s 0 0 (AA b0)) (F0 m 132 ls []) := by
  have hx := C.1
  have hb := C.2.1
  unfold X_X3_isTrueOf_132 at h
  refine lv_iconst (v := (1 : Int32)) hx hb dX3_isTrueOf_132 (by decide) ?_
  refine lv_goto hx hb dX3_isTrueOf_133 (tgt := 137) rfl ?_
  exact t_X3_isTrueOf_137 C hr hS hW (hl.keep [false, false, false, false, false, false, false] rfl) h
set_option maxRecDepth 20000 in
set_option maxHeartbeats 4000000 in
theorem t_X3_isTrueOf_116 {p : Program} {l : Launch} {e : Env} {s : State} {m : MethodId} {args : Array Value} {below : List Frame} {meth : Method} {c : Code} {H : Heap} {locs : List Loc} {D : va_G} {tc : Nat → ClassId} {b0 : Nat} {ls : Array Slot} {G : Lay} {Qx : Int32 → Mem → Prop} {l0 : Nat} {l3 : Int32}  {σ : Mem} (C : Cx p s m args meth c cX3_isTrueOf RX3 7 D tc b0) (hr : meth.sig.returnType = (some FieldType.boolean)) (hS : va_S (AA b0) s.heap H locs) (hW : Wd G D tc b0 σ H) (hl : hL b0 ls 7 [some (.inr (.inr l0)), none, none, some (.inl l3), none, none, none]) (h : X_X3_isTrueOf_116 G Qx l0 l3  σ) : W p l e rm_X3_isTrueOf s m args below meth c H locs 0 0 (MQ below (va_Qi Qx (fun u t => Pw G D tc b0 u t) (AA b0)) args s 0 0 (AA b0)) (F0 m 116 ls []) := by
  have hx := C.1
  have hb := C.2.1
  unfold X_X3_isTrueOf_116 at h
  refine x_iload_n C hl dX3_isTrueOf_116 rfl ?_
  refine lv_if_eq hx hb dX3_isTrueOf_117 (tgt := 132) rfl (fun hc => ?_) (fun hc => ?_)
  · replace h := h.1 hc
    exact t_X3_isTrueOf_132 C hr hS hW (hl.keep [false, false, false, false, false, false, false] rfl) h
  · replace h := h.2 hc
    refine x_aload_n C hl dX3_isTrueOf_120 rfl ?_
    have t1 := h.1
    replace h := h.2
    refine x_get C hW (t := 3) (k := 3) t1 kl_3 (by decide) fl_X3_15 (v := rv b0 (mR σ l0 3)) rfl dX3_isTrueOf_121 ?_
    refine x_iload_n C hl dX3_isTrueOf_124 rfl ?_
    refine lv_iconst (v := (1 : Int32)) hx hb dX3_isTrueOf_125 (by decide) ?_
    refine lv_isub hx hb dX3_isTrueOf_126 ?_
    have t2 := h.1
    replace h := h.2
    have v3 := h.1
    replace h := h.2
    refine x_iald C hW t2 v3 dX3_isTrueOf_127 ?_
    refine lv_iconst (v := (2 : Int32)) hx hb dX3_isTrueOf_128 (by decide) ?_
    refine lv_icmp_ne hx hb dX3_isTrueOf_129 (tgt := 136) rfl (fun hc => ?_) (fun hc => ?_)
    · replace h := h.2 hc
      refine lv_iconst (v := (0 : Int32)) hx hb dX3_isTrueOf_136 (by decide) ?_
      exact t_X3_isTrueOf_137 C hr hS hW (hl.keep [false, false, false, false, false, false, false] rfl) h
    · replace h := h.1 hc
      exact t_X3_isTrueOf_132 C hr hS hW (hl.keep [false, false, false, false, false, false, false] rfl) h
set_option maxRecDepth 20000 in
set_option maxHeartbeats 4000000 in
theorem t_X3_isTrueOf_8_n {p : Program} {l : Launch} {e : Env} {s : State} {m : MethodId} {args : Array Value} {below : List Frame} {meth : Method} {c : Code} {D : va_G} {tc : Nat → ClassId} {b0 : Nat} {G : Lay} {Qx : Int32 → Mem → Prop} {l0 : Nat} {l1 : Nat} {l2 : Int32} (C : Cx p s m args meth c cX3_isTrueOf RX3 7 D tc b0) (hr : meth.sig.returnType = (some FieldType.boolean)) (n : Nat) : ∀ (l3 : Int32) (l4 : Int32) (l5 : Int32) (σ : Mem) (H : Heap) (locs : List Loc) (ls : Array Slot), va_S (AA b0) s.heap H locs → Wd G D tc b0 σ H → hL b0 ls 7 [some (.inr (.inr l0)), some (.inr (.inr l1)), some (.inl l2), some (.inl l3), some (.inl l4), some (.inl l5), none] → Lp (X_X3_isTrueOf_8_s G Qx l0 l1 l2) n (l3, l4, l5, σ) → W p l e rm_X3_isTrueOf s m args below meth c H locs 0 0 (MQ below (va_Qi Qx (fun u t => Pw G D tc b0 u t) (AA b0)) args s 0 0 (AA b0)) (F0 m 8 ls []) := by
  have hx := C.1
  have hb := C.2.1
  induction n with
  | zero => intro l3 l4 l5 σ H locs ls hS hW hl h; exact False.elim h
  | succ n hK8 =>
    intro l3 l4 l5 σ H locs ls hS hW hl h
    replace h : X_X3_isTrueOf_8_s G Qx l0 l1 l2 (Lp (X_X3_isTrueOf_8_s G Qx l0 l1 l2) n) (l3, l4, l5, σ) := h
    unfold X_X3_isTrueOf_8_s at h
    refine x_iload C hl dX3_isTrueOf_8 rfl ?_
    refine x_aload_n C hl dX3_isTrueOf_10 rfl ?_
    have t1 := h.1
    replace h := h.2
    refine x_get C hW (t := 3) (k := 1) t1 kl_3 (by decide) fl_X3_22 (v := .int (mI σ l0 1)) rfl dX3_isTrueOf_11 ?_
    refine lv_icmp_ge hx hb dX3_isTrueOf_14 (tgt := 116) rfl (fun hc => ?_) (fun hc => ?_)
    · replace h := h.1 hc
      exact t_X3_isTrueOf_116 C hr hS hW (hl.keep [true, false, false, true, false, false, false] rfl) h
    · replace h := h.2 hc
      refine x_iload C hl dX3_isTrueOf_17 rfl ?_
      refine x_aload_n C hl dX3_isTrueOf_19 rfl ?_
      refine x_get C hW (t := 3) (k := 1) t1 kl_3 (by decide) fl_X3_22 (v := .int (mI σ l0 1)) rfl dX3_isTrueOf_20 ?_
      refine lv_icmp_ge hx hb dX3_isTrueOf_23 (tgt := 116) rfl (fun hc => ?_) (fun hc => ?_)
      · replace h := h.1 hc
        exact t_X3_isTrueOf_116 C hr hS hW (hl.keep [true, false, false, true, false, false, false] rfl) h
      · replace h := h.2 hc
        refine x_aload_n C hl dX3_isTrueOf_26 rfl ?_
        refine x_get C hW (t := 3) (k := 2) t1 kl_3 (by decide) fl_X3_9 (v := rv b0 (mR σ l0 2)) rfl dX3_isTrueOf_27 ?_
        refine x_iload C hl dX3_isTrueOf_30 rfl ?_
        have t2 := h.1
        replace h := h.2
        have v3 := h.1
        replace h := h.2
        refine x_iald C hW t2 v3 dX3_isTrueOf_32 ?_
        refine x_istore C hl dX3_isTrueOf_33 (by decide) rfl (fun ls hl => ?_)
        refine x_iload C hl dX3_isTrueOf_35 rfl ?_
        refine lv_iconst (v := (3 : Int32)) hx hb dX3_isTrueOf_37 (by decide) ?_
        refine lv_icmp_eq hx hb dX3_isTrueOf_38 (tgt := 47) rfl (fun hc => ?_) (fun hc => ?_)
        · replace h := h.1 hc
          exact t_X3_isTrueOf_47 C hr hK8 hS hW (hl.keep [true, true, true, true, true, true, true] rfl) h
        · replace h := h.2 hc
          refine x_iload C hl dX3_isTrueOf_41 rfl ?_
          refine lv_iconst (v := (4 : Int32)) hx hb dX3_isTrueOf_43 (by decide) ?_
          refine lv_icmp_ne hx hb dX3_isTrueOf_44 (tgt := 99) rfl (fun hc => ?_) (fun hc => ?_)
          · replace h := h.2 hc
            refine x_aload_n C hl dX3_isTrueOf_99 rfl ?_
            refine x_iload C hl dX3_isTrueOf_100 rfl ?_
            refine x_iload_n C hl dX3_isTrueOf_102 rfl ?_
            refine y_i (x_run (As := [.int (mI σ (mR σ l0 2) l4.toNatClampNeg), .int l3]) C hW hS (T_X3_join l l0 (mI σ (mR σ l0 2) l4.toNatClampNeg) l3 σ _ h) t1 kl_3 (CW.of yv_X3_join ml_X3_29) ⟨rfl, rfl, ⟨by decide, by decide⟩, by decide, by decide⟩ rfl hl.1 rfl (by decide) dX3_isTrueOf_103) hS (fun w5 s4 H locs h hW hS => ?_)
            refine x_istore_n C hl dX3_isTrueOf_106 (by decide) rfl (fun ls hl => ?_)
            refine x_iinc C hl dX3_isTrueOf_107 rfl (v := (1 : Int32)) (by decide) (by decide) rfl (fun ls hl => ?_)
            exact t_X3_isTrueOf_110 C hr hK8 hS hW (hl.keep [true, true, true, true, true, true, false] rfl) h
          · replace h := h.1 hc
            exact t_X3_isTrueOf_47 C hr hK8 hS hW (hl.keep [true, true, true, true, true, true, true] rfl) h
set_option maxRecDepth 20000 in
set_option maxHeartbeats 4000000 in
theorem t_X3_isTrueOf_8 {p : Program} {l : Launch} {e : Env} {s : State} {m : MethodId} {args : Array Value} {below : List Frame} {meth : Method} {c : Code} {H : Heap} {locs : List Loc} {D : va_G} {tc : Nat → ClassId} {b0 : Nat} {ls : Array Slot} {G : Lay} {Qx : Int32 → Mem → Prop} {l0 : Nat} {l1 : Nat} {l2 : Int32} {l3 : Int32} {l4 : Int32} {l5 : Int32}  {σ : Mem} (C : Cx p s m args meth c cX3_isTrueOf RX3 7 D tc b0) (hr : meth.sig.returnType = (some FieldType.boolean)) (hS : va_S (AA b0) s.heap H locs) (hW : Wd G D tc b0 σ H) (hl : hL b0 ls 7 [some (.inr (.inr l0)), some (.inr (.inr l1)), some (.inl l2), some (.inl l3), some (.inl l4), some (.inl l5), none]) (h : X_X3_isTrueOf_8 G Qx l0 l1 l2 l3 l4 l5 σ) : W p l e rm_X3_isTrueOf s m args below meth c H locs 0 0 (MQ below (va_Qi Qx (fun u t => Pw G D tc b0 u t) (AA b0)) args s 0 0 (AA b0)) (F0 m 8 ls []) := by
  obtain ⟨n, h⟩ := h
  exact t_X3_isTrueOf_8_n C hr n l3 l4 l5 σ H locs ls hS hW hl h
set_option maxRecDepth 20000 in
set_option maxHeartbeats 4000000 in
theorem t_X3_isTrueOf_0 {p : Program} {l : Launch} {e : Env} {s : State} {m : MethodId} {args : Array Value} {below : List Frame} {meth : Method} {c : Code} {H : Heap} {locs : List Loc} {D : va_G} {tc : Nat → ClassId} {b0 : Nat} {ls : Array Slot} {G : Lay} {Qx : Int32 → Mem → Prop} {l0 : Nat} {l1 : Nat} {l2 : Int32}  {σ : Mem} (C : Cx p s m args meth c cX3_isTrueOf RX3 7 D tc b0) (hr : meth.sig.returnType = (some FieldType.boolean)) (hS : va_S (AA b0) s.heap H locs) (hW : Wd G D tc b0 σ H) (hl : hL b0 ls 7 [some (.inr (.inr l0)), some (.inr (.inr l1)), some (.inl l2), none, none, none, none]) (h : X_X3_isTrueOf_0 G Qx l0 l1 l2  σ) : W p l e rm_X3_isTrueOf s m args below meth c H locs 0 0 (MQ below (va_Qi Qx (fun u t => Pw G D tc b0 u t) (AA b0)) args s 0 0 (AA b0)) (F0 m 0 ls []) := by
  have hx := C.1
  have hb := C.2.1
  unfold X_X3_isTrueOf_0 at h
  refine lv_iconst (v := (0 : Int32)) hx hb dX3_isTrueOf_0 (by decide) ?_
  refine x_istore_n C hl dX3_isTrueOf_1 (by decide) rfl (fun ls hl => ?_)
  refine lv_iconst (v := (0 : Int32)) hx hb dX3_isTrueOf_2 (by decide) ?_
  refine x_istore C hl dX3_isTrueOf_3 (by decide) rfl (fun ls hl => ?_)
  refine lv_iconst (v := (0 : Int32)) hx hb dX3_isTrueOf_5 (by decide) ?_
  refine x_istore C hl dX3_isTrueOf_6 (by decide) rfl (fun ls hl => ?_)
  exact t_X3_isTrueOf_8 C hr hS hW (hl.keep [true, true, true, true, true, true, false] rfl) h
theorem T_X3_isTrueOf (l : Launch) {G : Lay} {D : va_G} {tc : Nat → ClassId} {b0 : Nat} (l0 : Nat) (l1 : Nat) (l2 : Int32) (σ : Mem) (Qx : Int32 → Mem → Prop) (h : X_X3_isTrueOf G Qx l0 l1 l2 σ) : MI l yX3_isTrueOf cX3_isTrueOf 7 ((some FieldType.boolean)) rm_X3_isTrueOf G D tc b0 [rv b0 l0, rv b0 l1, .int l2] σ Qx :=
  x_entry (y := yX3_isTrueOf) [.inr (.inr l0), .inr (.inr l1), .inl l2] 4 (by decide) (Nat.le_of_ble_eq_true rfl) (fun p e s m args below meth c ls C hr hW hl => t_X3_isTrueOf_0 C hr va_S.rf hW (hl.keep [true, true, true, false, false, false, false] rfl) h)
/-! X4_openingNow -/
set_option maxRecDepth 20000 in
set_option maxHeartbeats 4000000 in
theorem t_X4_openingNow_33 {p : Program} {l : Launch} {e : Env} {s : State} {m : MethodId} {args : Array Value} {below : List Frame} {meth : Method} {c : Code} {H : Heap} {locs : List Loc} {D : va_G} {tc : Nat → ClassId} {b0 : Nat} {ls : Array Slot} {G : Lay} {Qx : Int32 → Mem → Prop}  {k0 : Int32} {σ : Mem} (C : Cx p s m args meth c cX4_openingNow RX4 1 D tc b0) (hr : meth.sig.returnType = (some FieldType.int)) (hS : va_S (AA b0) s.heap H locs) (hW : Wd G D tc b0 σ H) (hl : hL b0 ls 1 [none]) (h : X_X4_openingNow_33 G Qx  k0 σ) : W p l e rm_X4_openingNow s m args below meth c H locs 0 0 (MQ below (va_Qi Qx (fun u t => Pw G D tc b0 u t) (AA b0)) args s 0 0 (AA b0)) (F0 m 33 ls [.int k0]) := by
  have hx := C.1
  have hb := C.2.1
  unfold X_X4_openingNow_33 at h
  exact r_i C hr hW hS h dX4_openingNow_33
set_option maxRecDepth 20000 in
set_option maxHeartbeats 4000000 in
theorem t_X4_openingNow_0 {p : Program} {l : Launch} {e : Env} {s : State} {m : MethodId} {args : Array Value} {below : List Frame} {meth : Method} {c : Code} {H : Heap} {locs : List Loc} {D : va_G} {tc : Nat → ClassId} {b0 : Nat} {ls : Array Slot} {G : Lay} {Qx : Int32 → Mem → Prop} {l0 : Nat}  {σ : Mem} (C : Cx p s m args meth c cX4_openingNow RX4 1 D tc b0) (hr : meth.sig.returnType = (some FieldType.int)) (hS : va_S (AA b0) s.heap H locs) (hW : Wd G D tc b0 σ H) (hl : hL b0 ls 1 [some (.inr (.inr l0))]) (h : X_X4_openingNow_0 G Qx l0  σ) : W p l e rm_X4_openingNow s m args below meth c H locs 0 0 (MQ below (va_Qi Qx (fun u t => Pw G D tc b0 u t) (AA b0)) args s 0 0 (AA b0)) (F0 m 0 ls []) := by
  have hx := C.1
  have hb := C.2.1
  unfold X_X4_openingNow_0 at h
  refine x_aload_n C hl dX4_openingNow_0 rfl ?_
  have t1 := h.1
  replace h := h.2
  refine x_get C hW (t := 4) (k := 0) t1 kl_4 (by decide) fl_X4_15 (v := rv b0 (mR σ l0 0)) rfl dX4_openingNow_1 ?_
  refine lv_ldc2 (own := RX4) (v := (7237492 : Int64)) hx hb C.2.2.2.1 (C.2.2.2.2.1 _ (gc6 120 rfl rfl)) dX4_openingNow_4 ?_
  have t2 := h.1
  replace h := h.2
  refine y_i (x_run (As := [.long (7237492 : Int64)]) C hW hS (T_X8_isAt l (mR σ l0 0) (7237492 : Int64) σ _ h) t2 kl_8 (CW.of yv_X8_isAt ml_X4_102) ⟨rfl, rfl, ⟨by decide, by decide⟩, by decide, by decide⟩ rfl hl.1 rfl (by decide) dX4_openingNow_7) hS (fun w4 s3 H locs h hW hS => ?_)
  refine lv_if_eq hx hb dX4_openingNow_10 (tgt := 15) rfl (fun hc => ?_) (fun hc => ?_)
  · replace h := h.1 hc
    refine x_aload_n C hl dX4_openingNow_15 rfl ?_
    refine x_get C hW (t := 4) (k := 0) t1 kl_4 (by decide) fl_X4_15 (v := rv b0 (mR s3 l0 0)) rfl dX4_openingNow_16 ?_
    refine lv_ldc2 (own := RX4) (v := (40 : Int64)) hx hb C.2.2.2.1 (C.2.2.2.2.1 _ (gc6 122 rfl rfl)) dX4_openingNow_19 ?_
    have t5 := h.1
    replace h := h.2
    refine y_i (x_run (As := [.long (40 : Int64)]) C hW hS (T_X8_isAt l (mR s3 l0 0) (40 : Int64) s3 _ h) t5 kl_8 (CW.of yv_X8_isAt ml_X4_102) ⟨rfl, rfl, ⟨by decide, by decide⟩, by decide, by decide⟩ rfl hl.1 rfl (by decide) dX4_openingNow_22) hS (fun w7 s6 H locs h hW hS => ?_)
    refine lv_if_eq hx hb dX4_openingNow_25 (tgt := 32) rfl (fun hc => ?_) (fun hc => ?_)
    · replace h := h.1 hc
      refine lv_iconst (v := (-1 : Int32)) hx hb dX4_openingNow_32 (by decide) ?_
      exact t_X4_openingNow_33 C hr hS hW (hl.keep [false] rfl) h
    · replace h := h.2 hc
      refine lv_iconst (v := (5 : Int32)) hx hb dX4_openingNow_28 (by decide) ?_
      refine lv_goto hx hb dX4_openingNow_29 (tgt := 33) rfl ?_
      exact t_X4_openingNow_33 C hr hS hW (hl.keep [false] rfl) h
  · replace h := h.2 hc
    refine lv_iconst (v := (0 : Int32)) hx hb dX4_openingNow_13 (by decide) ?_
    exact r_i C hr hW hS h dX4_openingNow_14
theorem T_X4_openingNow (l : Launch) {G : Lay} {D : va_G} {tc : Nat → ClassId} {b0 : Nat} (l0 : Nat) (σ : Mem) (Qx : Int32 → Mem → Prop) (h : X_X4_openingNow G Qx l0 σ) : MI l yX4_openingNow cX4_openingNow 1 ((some FieldType.int)) rm_X4_openingNow G D tc b0 [rv b0 l0] σ Qx :=
  x_entry (y := yX4_openingNow) [.inr (.inr l0)] 0 (by decide) (Nat.le_of_ble_eq_true rfl) (fun p e s m args below meth c ls C hr hW hl => t_X4_openingNow_0 C hr va_S.rf hW (hl.keep [true] rfl) h)
/-! X4_push -/
set_option maxRecDepth 20000 in
set_option maxHeartbeats 4000000 in
theorem t_X4_push_32 {p : Program} {l : Launch} {e : Env} {s : State} {m : MethodId} {args : Array Value} {below : List Frame} {meth : Method} {c : Code} {H : Heap} {locs : List Loc} {D : va_G} {tc : Nat → ClassId} {b0 : Nat} {ls : Array Slot} {G : Lay} {Qx : Mem → Prop}   {σ : Mem} (C : Cx p s m args meth c cX4_push RX4 2 D tc b0) (hr : meth.sig.returnType = (none : Option FieldType)) (hS : va_S (AA b0) s.heap H locs) (hW : Wd G D tc b0 σ H) (hl : hL b0 ls 2 [none, none]) (h : X_X4_push_32 G Qx   σ) : W p l e rm_X4_push s m args below meth c H locs 0 0 (MQ below (va_Qv Qx (fun u t => Pw G D tc b0 u t) (AA b0)) args s 0 0 (AA b0)) (F0 m 32 ls []) := by
  have hx := C.1
  have hb := C.2.1
  unfold X_X4_push_32 at h
  exact r_v C hr hW hS h dX4_push_32
set_option maxRecDepth 20000 in
set_option maxHeartbeats 4000000 in
theorem t_X4_push_0 {p : Program} {l : Launch} {e : Env} {s : State} {m : MethodId} {args : Array Value} {below : List Frame} {meth : Method} {c : Code} {H : Heap} {locs : List Loc} {D : va_G} {tc : Nat → ClassId} {b0 : Nat} {ls : Array Slot} {G : Lay} {Qx : Mem → Prop} {l0 : Nat} {l1 : Int32}  {σ : Mem} (C : Cx p s m args meth c cX4_push RX4 2 D tc b0) (hr : meth.sig.returnType = (none : Option FieldType)) (hS : va_S (AA b0) s.heap H locs) (hW : Wd G D tc b0 σ H) (hl : hL b0 ls 2 [some (.inr (.inr l0)), some (.inl l1)]) (h : X_X4_push_0 G Qx l0 l1  σ) : W p l e rm_X4_push s m args below meth c H locs 0 0 (MQ below (va_Qv Qx (fun u t => Pw G D tc b0 u t) (AA b0)) args s 0 0 (AA b0)) (F0 m 0 ls []) := by
  have hx := C.1
  have hb := C.2.1
  unfold X_X4_push_0 at h
  refine x_aload_n C hl dX4_push_0 rfl ?_
  have t1 := h.1
  replace h := h.2
  refine x_get C hW (t := 4) (k := 4) t1 kl_4 (by decide) fl_X4_71 (v := .int (mI σ l0 4)) rfl dX4_push_1 ?_
  refine x_aload_n C hl dX4_push_4 rfl ?_
  refine x_get C hW (t := 4) (k := 3) t1 kl_4 (by decide) fl_X4_11 (v := rv b0 (mR σ l0 3)) rfl dX4_push_5 ?_
  have t2 := h.1
  replace h := h.2
  refine x_alen C hW (t := 99) (t0 := 0) t2 (by decide) rfl dX4_push_8 ?_
  refine lv_icmp_ge hx hb dX4_push_9 (tgt := 32) rfl (fun hc => ?_) (fun hc => ?_)
  · replace h := h.1 hc
    exact t_X4_push_32 C hr hS hW (hl.keep [false, false] rfl) h
  · replace h := h.2 hc
    refine x_aload_n C hl dX4_push_12 rfl ?_
    refine x_get C hW (t := 4) (k := 3) t1 kl_4 (by decide) fl_X4_11 (v := rv b0 (mR σ l0 3)) rfl dX4_push_13 ?_
    refine x_aload_n C hl dX4_push_16 rfl ?_
    refine x_get C hW (t := 4) (k := 4) t1 kl_4 (by decide) fl_X4_71 (v := .int (mI σ l0 4)) rfl dX4_push_17 ?_
    refine x_iload_n C hl dX4_push_20 rfl ?_
    have v3 := h.1
    replace h := h.2
    refine x_iast C hW hS t2 v3 dX4_push_21 (fun H locs hW hS => ?_)
    obtain ⟨s4, e_s4⟩ : ∃ z : Mem, z = (sI σ (mR σ l0 3) (mI σ l0 4).toNatClampNeg l1) := ⟨_, rfl⟩
    replace h := h s4 e_s4
    replace hW : Wd G D tc b0 s4 H := by rw [e_s4]; exact hW
    refine x_aload_n C hl dX4_push_22 rfl ?_
    refine lv_dup hx hb dX4_push_23 (rv_cat _ _) ?_
    refine x_get C hW (t := 4) (k := 4) t1 kl_4 (by decide) fl_X4_71 (v := .int (mI s4 l0 4)) rfl dX4_push_24 ?_
    refine lv_iconst (v := (1 : Int32)) hx hb dX4_push_27 (by decide) ?_
    refine lv_iadd hx hb dX4_push_28 ?_
    refine x_putI C hW hS (t := 4) (k := 4) t1 kl_4 (by decide) fl_X4_71 rfl rfl rfl rfl dX4_push_29 (fun H locs hW hS => ?_)
    obtain ⟨s5, e_s5⟩ : ∃ z : Mem, z = (sI s4 l0 4 ((mI s4 l0 4) + (1 : Int32))) := ⟨_, rfl⟩
    replace h := h s5 e_s5
    replace hW : Wd G D tc b0 s5 H := by rw [e_s5]; exact hW
    exact t_X4_push_32 C hr hS hW (hl.keep [false, false] rfl) h
theorem T_X4_push (l : Launch) {G : Lay} {D : va_G} {tc : Nat → ClassId} {b0 : Nat} (l0 : Nat) (l1 : Int32) (σ : Mem) (Qx : Mem → Prop) (h : X_X4_push G Qx l0 l1 σ) : MV l yX4_push cX4_push 2 ((none : Option FieldType)) rm_X4_push G D tc b0 [rv b0 l0, .int l1] σ Qx :=
  x_entry (y := yX4_push) [.inr (.inr l0), .inl l1] 0 (by decide) (Nat.le_of_ble_eq_true rfl) (fun p e s m args below meth c ls C hr hW hl => t_X4_push_0 C hr va_S.rf hW (hl.keep [true, true] rfl) h)
/-! X4_readOpenings -/
set_option maxRecDepth 20000 in
set_option maxHeartbeats 4000000 in
theorem t_X4_readOpenings_2_n {p : Program} {l : Launch} {e : Env} {s : State} {m : MethodId} {args : Array Value} {below : List Frame} {meth : Method} {c : Code} {D : va_G} {tc : Nat → ClassId} {b0 : Nat} {G : Lay} {Qx : Int32 → Mem → Prop} {l0 : Nat} (C : Cx p s m args meth c cX4_readOpenings RX4 3 D tc b0) (hr : meth.sig.returnType = (some FieldType.boolean)) (n : Nat) : ∀ (l1 : Int32) (σ : Mem) (H : Heap) (locs : List Loc) (ls : Array Slot), va_S (AA b0) s.heap H locs → Wd G D tc b0 σ H → hL b0 ls 3 [some (.inr (.inr l0)), some (.inl l1), none] → Lp (X_X4_readOpenings_2_s G Qx l0) n (l1, σ) → W p l e rm_X4_readOpenings s m args below meth c H locs 0 0 (MQ below (va_Qi Qx (fun u t => Pw G D tc b0 u t) (AA b0)) args s 0 0 (AA b0)) (F0 m 2 ls []) := by
  have hx := C.1
  have hb := C.2.1
  induction n with
  | zero => intro l1 σ H locs ls hS hW hl h; exact False.elim h
  | succ n hK2 =>
    intro l1 σ H locs ls hS hW hl h
    replace h : X_X4_readOpenings_2_s G Qx l0 (Lp (X_X4_readOpenings_2_s G Qx l0) n) (l1, σ) := h
    unfold X_X4_readOpenings_2_s at h
    refine x_iload_n C hl dX4_readOpenings_2 rfl ?_
    refine lv_sipush (v := (3000 : Int32)) hx hb dX4_readOpenings_3 (by decide) ?_
    refine lv_icmp_gt hx hb dX4_readOpenings_6 (tgt := 67) rfl (fun hc => ?_) (fun hc => ?_)
    · replace h := h.1 hc
      refine x_aload_n C hl dX4_readOpenings_67 rfl ?_
      have t1 := h.1
      replace h := h.2
      refine x_get C hW (t := 4) (k := 0) t1 kl_4 (by decide) fl_X4_15 (v := rv b0 (mR σ l0 0)) rfl dX4_readOpenings_68 ?_
      have t2 := h.1
      replace h := h.2
      refine y_i (x_run (As := []) C hW hS (T_X8_misplaced l (mR σ l0 0) σ _ h) t2 kl_8 (CW.of yv_X8_misplaced ml_X4_33) ⟨rfl, rfl, ⟨by decide, by decide⟩, by decide, by decide⟩ rfl hl.1 rfl (by decide) dX4_readOpenings_71) hS (fun w4 s3 H locs h hW hS => ?_)
      exact r_z C hr hW hS h.1 h.2 dX4_readOpenings_74
    · replace h := h.2 hc
      refine x_aload_n C hl dX4_readOpenings_9 rfl ?_
      have t5 := h.1
      replace h := h.2
      refine y_i (x_run (As := []) C hW hS (T_X4_openingNow l l0 σ _ h) t5 kl_4 (CW.of yv_X4_openingNow ml_X4_93) ⟨rfl, rfl, ⟨by decide, by decide⟩, by decide, by decide⟩ rfl hl.1 rfl (by decide) dX4_readOpenings_10) hS (fun w7 s6 H locs h hW hS => ?_)
      refine x_istore_n C hl dX4_readOpenings_13 (by decide) rfl (fun ls hl => ?_)
      refine x_iload_n C hl dX4_readOpenings_14 rfl ?_
      refine lv_iconst (v := (-1 : Int32)) hx hb dX4_readOpenings_15 (by decide) ?_
      refine lv_icmp_ne hx hb dX4_readOpenings_16 (tgt := 21) rfl (fun hc => ?_) (fun hc => ?_)
      · replace h := h.2 hc
        refine x_aload_n C hl dX4_readOpenings_21 rfl ?_
        refine x_get C hW (t := 4) (k := 5) t5 kl_4 (by decide) fl_X4_75 (v := .int (mI s6 l0 5)) rfl dX4_readOpenings_22 ?_
        refine lv_bipush (v := (20 : Int32)) hx hb dX4_readOpenings_25 (by decide) ?_
        refine lv_icmp_lt hx hb dX4_readOpenings_27 (tgt := 39) rfl (fun hc => ?_) (fun hc => ?_)
        · replace h := h.1 hc
          refine x_aload_n C hl dX4_readOpenings_39 rfl ?_
          refine lv_dup hx hb dX4_readOpenings_40 (rv_cat _ _) ?_
          refine x_get C hW (t := 4) (k := 5) t5 kl_4 (by decide) fl_X4_75 (v := .int (mI s6 l0 5)) rfl dX4_readOpenings_41 ?_
          refine lv_iconst (v := (1 : Int32)) hx hb dX4_readOpenings_44 (by decide) ?_
          refine lv_iadd hx hb dX4_readOpenings_45 ?_
          refine x_putI C hW hS (t := 4) (k := 5) t5 kl_4 (by decide) fl_X4_75 rfl rfl rfl rfl dX4_readOpenings_46 (fun H locs hW hS => ?_)
          obtain ⟨s8, e_s8⟩ : ∃ z : Mem, z = (sI s6 l0 5 ((mI s6 l0 5) + (1 : Int32))) := ⟨_, rfl⟩
          replace h := h s8 e_s8
          replace hW : Wd G D tc b0 s8 H := by rw [e_s8]; exact hW
          refine x_aload_n C hl dX4_readOpenings_49 rfl ?_
          refine x_iload_n C hl dX4_readOpenings_50 rfl ?_
          refine y_v (x_run (As := [.int w7]) C hW hS (T_X4_push l l0 w7 s8 _ h) t5 kl_4 (CW.of yv_X4_push ml_X4_97) ⟨rfl, rfl, ⟨by decide, by decide⟩, by decide, by decide⟩ rfl hl.1 rfl (by decide) dX4_readOpenings_51) hS (fun s9 H locs h hW hS => ?_)
          refine x_aload_n C hl dX4_readOpenings_54 rfl ?_
          refine x_get C hW (t := 4) (k := 0) t5 kl_4 (by decide) fl_X4_15 (v := rv b0 (mR s9 l0 0)) rfl dX4_readOpenings_55 ?_
          have t10 := h.1
          replace h := h.2
          refine y_v (x_run (As := []) C hW hS (T_X8_pass l (mR s9 l0 0) s9 _ h) t10 kl_8 (CW.of yv_X8_pass ml_X4_56) ⟨rfl, rfl, ⟨by decide, by decide⟩, by decide, by decide⟩ rfl hl.1 rfl (by decide) dX4_readOpenings_58) hS (fun s11 H locs h hW hS => ?_)
          refine x_iinc C hl dX4_readOpenings_61 rfl (v := (1 : Int32)) (by decide) (by decide) rfl (fun ls hl => ?_)
          refine lv_goto hx hb dX4_readOpenings_64 (tgt := 2) rfl ?_
          exact hK2 _ _ _ _ _ hS hW (hl.keep [true, true, false] rfl) h
        · replace h := h.2 hc
          refine x_aload_n C hl dX4_readOpenings_30 rfl ?_
          refine x_get C hW (t := 4) (k := 0) t5 kl_4 (by decide) fl_X4_15 (v := rv b0 (mR s6 l0 0)) rfl dX4_readOpenings_31 ?_
          refine lv_iconst (v := (4 : Int32)) hx hb dX4_readOpenings_34 (by decide) ?_
          have t12 := h.1
          replace h := h.2
          refine y_i (x_run (As := [.int (4 : Int32)]) C hW hS (T_X8_refuse l (mR s6 l0 0) (4 : Int32) s6 _ h) t12 kl_8 (CW.of yv_X8_refuse ml_X4_46) ⟨rfl, rfl, ⟨by decide, by decide⟩, by decide, by decide⟩ rfl hl.1 rfl (by decide) dX4_readOpenings_35) hS (fun w14 s13 H locs h hW hS => ?_)
          exact r_z C hr hW hS h.1 h.2 dX4_readOpenings_38
      · replace h := h.1 hc
        refine lv_iconst (v := (1 : Int32)) hx hb dX4_readOpenings_19 (by decide) ?_
        exact r_z C hr hW hS h.1 h.2 dX4_readOpenings_20
set_option maxRecDepth 20000 in
set_option maxHeartbeats 4000000 in
theorem t_X4_readOpenings_2 {p : Program} {l : Launch} {e : Env} {s : State} {m : MethodId} {args : Array Value} {below : List Frame} {meth : Method} {c : Code} {H : Heap} {locs : List Loc} {D : va_G} {tc : Nat → ClassId} {b0 : Nat} {ls : Array Slot} {G : Lay} {Qx : Int32 → Mem → Prop} {l0 : Nat} {l1 : Int32}  {σ : Mem} (C : Cx p s m args meth c cX4_readOpenings RX4 3 D tc b0) (hr : meth.sig.returnType = (some FieldType.boolean)) (hS : va_S (AA b0) s.heap H locs) (hW : Wd G D tc b0 σ H) (hl : hL b0 ls 3 [some (.inr (.inr l0)), some (.inl l1), none]) (h : X_X4_readOpenings_2 G Qx l0 l1 σ) : W p l e rm_X4_readOpenings s m args below meth c H locs 0 0 (MQ below (va_Qi Qx (fun u t => Pw G D tc b0 u t) (AA b0)) args s 0 0 (AA b0)) (F0 m 2 ls []) := by
  obtain ⟨n, h⟩ := h
  exact t_X4_readOpenings_2_n C hr n l1 σ H locs ls hS hW hl h
set_option maxRecDepth 20000 in
set_option maxHeartbeats 4000000 in
theorem t_X4_readOpenings_0 {p : Program} {l : Launch} {e : Env} {s : State} {m : MethodId} {args : Array Value} {below : List Frame} {meth : Method} {c : Code} {H : Heap} {locs : List Loc} {D : va_G} {tc : Nat → ClassId} {b0 : Nat} {ls : Array Slot} {G : Lay} {Qx : Int32 → Mem → Prop} {l0 : Nat}  {σ : Mem} (C : Cx p s m args meth c cX4_readOpenings RX4 3 D tc b0) (hr : meth.sig.returnType = (some FieldType.boolean)) (hS : va_S (AA b0) s.heap H locs) (hW : Wd G D tc b0 σ H) (hl : hL b0 ls 3 [some (.inr (.inr l0)), none, none]) (h : X_X4_readOpenings_0 G Qx l0  σ) : W p l e rm_X4_readOpenings s m args below meth c H locs 0 0 (MQ below (va_Qi Qx (fun u t => Pw G D tc b0 u t) (AA b0)) args s 0 0 (AA b0)) (F0 m 0 ls []) := by
  have hx := C.1
  have hb := C.2.1
  unfold X_X4_readOpenings_0 at h
  refine lv_iconst (v := (0 : Int32)) hx hb dX4_readOpenings_0 (by decide) ?_
  refine x_istore_n C hl dX4_readOpenings_1 (by decide) rfl (fun ls hl => ?_)
  exact t_X4_readOpenings_2 C hr hS hW (hl.keep [true, true, false] rfl) h
theorem T_X4_readOpenings (l : Launch) {G : Lay} {D : va_G} {tc : Nat → ClassId} {b0 : Nat} (l0 : Nat) (σ : Mem) (Qx : Int32 → Mem → Prop) (h : X_X4_readOpenings G Qx l0 σ) : MI l yX4_readOpenings cX4_readOpenings 3 ((some FieldType.boolean)) rm_X4_readOpenings G D tc b0 [rv b0 l0] σ Qx :=
  x_entry (y := yX4_readOpenings) [.inr (.inr l0)] 2 (by decide) (Nat.le_of_ble_eq_true rfl) (fun p e s m args below meth c ls C hr hW hl => t_X4_readOpenings_0 C hr va_S.rf hW (hl.keep [true, false, false] rfl) h)
/-! X8_isAhead -/
set_option maxRecDepth 20000 in
set_option maxHeartbeats 4000000 in
theorem t_X8_isAhead_47 {p : Program} {l : Launch} {e : Env} {s : State} {m : MethodId} {args : Array Value} {below : List Frame} {meth : Method} {c : Code} {H : Heap} {locs : List Loc} {D : va_G} {tc : Nat → ClassId} {b0 : Nat} {ls : Array Slot} {G : Lay} {Qx : Int32 → Mem → Prop}  {k0 : Int32} {σ : Mem} (C : Cx p s m args meth c cX8_isAhead RX8 3 D tc b0) (hr : meth.sig.returnType = (some FieldType.boolean)) (hS : va_S (AA b0) s.heap H locs) (hW : Wd G D tc b0 σ H) (hl : hL b0 ls 3 [none, none, none]) (h : X_X8_isAhead_47 G Qx  k0 σ) : W p l e rm_X8_isAhead s m args below meth c H locs 0 0 (MQ below (va_Qi Qx (fun u t => Pw G D tc b0 u t) (AA b0)) args s 0 0 (AA b0)) (F0 m 47 ls [.int k0]) := by
  have hx := C.1
  have hb := C.2.1
  unfold X_X8_isAhead_47 at h
  exact r_z C hr hW hS h.1 h.2 dX8_isAhead_47
set_option maxRecDepth 20000 in
set_option maxHeartbeats 4000000 in
theorem t_X8_isAhead_46 {p : Program} {l : Launch} {e : Env} {s : State} {m : MethodId} {args : Array Value} {below : List Frame} {meth : Method} {c : Code} {H : Heap} {locs : List Loc} {D : va_G} {tc : Nat → ClassId} {b0 : Nat} {ls : Array Slot} {G : Lay} {Qx : Int32 → Mem → Prop}   {σ : Mem} (C : Cx p s m args meth c cX8_isAhead RX8 3 D tc b0) (hr : meth.sig.returnType = (some FieldType.boolean)) (hS : va_S (AA b0) s.heap H locs) (hW : Wd G D tc b0 σ H) (hl : hL b0 ls 3 [none, none, none]) (h : X_X8_isAhead_46 G Qx   σ) : W p l e rm_X8_isAhead s m args below meth c H locs 0 0 (MQ below (va_Qi Qx (fun u t => Pw G D tc b0 u t) (AA b0)) args s 0 0 (AA b0)) (F0 m 46 ls []) := by
  have hx := C.1
  have hb := C.2.1
  unfold X_X8_isAhead_46 at h
  refine lv_iconst (v := (0 : Int32)) hx hb dX8_isAhead_46 (by decide) ?_
  exact t_X8_isAhead_47 C hr hS hW (hl.keep [false, false, false] rfl) h
set_option maxRecDepth 20000 in
set_option maxHeartbeats 4000000 in
theorem t_X8_isAhead_0 {p : Program} {l : Launch} {e : Env} {s : State} {m : MethodId} {args : Array Value} {below : List Frame} {meth : Method} {c : Code} {H : Heap} {locs : List Loc} {D : va_G} {tc : Nat → ClassId} {b0 : Nat} {ls : Array Slot} {G : Lay} {Qx : Int32 → Mem → Prop} {l0 : Nat} {l1 : Int64}  {σ : Mem} (C : Cx p s m args meth c cX8_isAhead RX8 3 D tc b0) (hr : meth.sig.returnType = (some FieldType.boolean)) (hS : va_S (AA b0) s.heap H locs) (hW : Wd G D tc b0 σ H) (hl : hL b0 ls 3 [some (.inr (.inr l0)), some (.inr (.inl l1)), none]) (h : X_X8_isAhead_0 G Qx l0 l1  σ) : W p l e rm_X8_isAhead s m args below meth c H locs 0 0 (MQ below (va_Qi Qx (fun u t => Pw G D tc b0 u t) (AA b0)) args s 0 0 (AA b0)) (F0 m 0 ls []) := by
  have hx := C.1
  have hb := C.2.1
  unfold X_X8_isAhead_0 at h
  refine x_aload_n C hl dX8_isAhead_0 rfl ?_
  have t1 := h.1
  replace h := h.2
  refine x_get C hW (t := 8) (k := 4) t1 kl_8 (by decide) fl_X8_29 (v := .int (mI σ l0 4)) rfl dX8_isAhead_1 ?_
  refine x_aload_n C hl dX8_isAhead_4 rfl ?_
  refine x_get C hW (t := 8) (k := 3) t1 kl_8 (by decide) fl_X8_32 (v := .int (mI σ l0 3)) rfl dX8_isAhead_5 ?_
  refine lv_icmp_ge hx hb dX8_isAhead_8 (tgt := 46) rfl (fun hc => ?_) (fun hc => ?_)
  · replace h := h.1 hc
    exact t_X8_isAhead_46 C hr hS hW (hl.keep [false, false, false] rfl) h
  · replace h := h.2 hc
    refine x_aload_n C hl dX8_isAhead_11 rfl ?_
    refine x_get C hW (t := 8) (k := 0) t1 kl_8 (by decide) fl_X8_9 (v := rv b0 (mR σ l0 0)) rfl dX8_isAhead_12 ?_
    refine x_aload_n C hl dX8_isAhead_15 rfl ?_
    refine x_get C hW (t := 8) (k := 4) t1 kl_8 (by decide) fl_X8_29 (v := .int (mI σ l0 4)) rfl dX8_isAhead_16 ?_
    refine lv_iconst (v := (1 : Int32)) hx hb dX8_isAhead_19 (by decide) ?_
    refine lv_iadd hx hb dX8_isAhead_20 ?_
    have t2 := h.1
    replace h := h.2
    have v3 := h.1
    replace h := h.2
    refine x_iald C hW t2 v3 dX8_isAhead_21 ?_
    refine lv_iconst (v := (5 : Int32)) hx hb dX8_isAhead_22 (by decide) ?_
    refine lv_icmp_ne hx hb dX8_isAhead_23 (tgt := 46) rfl (fun hc => ?_) (fun hc => ?_)
    · replace h := h.2 hc
      exact t_X8_isAhead_46 C hr hS hW (hl.keep [false, false, false] rfl) h
    · replace h := h.1 hc
      refine x_aload_n C hl dX8_isAhead_26 rfl ?_
      refine x_get C hW (t := 8) (k := 2) t1 kl_8 (by decide) fl_X8_18 (v := rv b0 (mR σ l0 2)) rfl dX8_isAhead_27 ?_
      refine x_aload_n C hl dX8_isAhead_30 rfl ?_
      refine x_get C hW (t := 8) (k := 4) t1 kl_8 (by decide) fl_X8_29 (v := .int (mI σ l0 4)) rfl dX8_isAhead_31 ?_
      refine lv_iconst (v := (1 : Int32)) hx hb dX8_isAhead_34 (by decide) ?_
      refine lv_iadd hx hb dX8_isAhead_35 ?_
      have t4 := h.1
      replace h := h.2
      have v5 := h.1
      replace h := h.2
      refine x_lald C hW t4 v5 dX8_isAhead_36 ?_
      refine x_lload_n C hl dX8_isAhead_37 rfl ?_
      refine W.lcmp hx hb dX8_isAhead_38 ?_
      refine lv_if_ne hx hb dX8_isAhead_39 (tgt := 46) rfl (fun hc => ?_) (fun hc => ?_)
      · replace h := h.2 hc
        exact t_X8_isAhead_46 C hr hS hW (hl.keep [false, false, false] rfl) h
      · replace h := h.1 hc
        refine lv_iconst (v := (1 : Int32)) hx hb dX8_isAhead_42 (by decide) ?_
        refine lv_goto hx hb dX8_isAhead_43 (tgt := 47) rfl ?_
        exact t_X8_isAhead_47 C hr hS hW (hl.keep [false, false, false] rfl) h
theorem T_X8_isAhead (l : Launch) {G : Lay} {D : va_G} {tc : Nat → ClassId} {b0 : Nat} (l0 : Nat) (l1 : Int64) (σ : Mem) (Qx : Int32 → Mem → Prop) (h : X_X8_isAhead G Qx l0 l1 σ) : MI l yX8_isAhead cX8_isAhead 3 ((some FieldType.boolean)) rm_X8_isAhead G D tc b0 [rv b0 l0, .long l1] σ Qx :=
  x_entry (y := yX8_isAhead) [.inr (.inr l0), .inr (.inl l1)] 0 (by decide) (Nat.le_of_ble_eq_true rfl) (fun p e s m args below meth c ls C hr hW hl => t_X8_isAhead_0 C hr va_S.rf hW (hl.keep [true, true, false] rfl) h)
/-! X4_canStand -/
set_option maxRecDepth 20000 in
set_option maxHeartbeats 4000000 in
theorem t_X4_canStand_21 {p : Program} {l : Launch} {e : Env} {s : State} {m : MethodId} {args : Array Value} {below : List Frame} {meth : Method} {c : Code} {H : Heap} {locs : List Loc} {D : va_G} {tc : Nat → ClassId} {b0 : Nat} {ls : Array Slot} {G : Lay} {Qx : Int32 → Mem → Prop}  {k0 : Int32} {σ : Mem} (C : Cx p s m args meth c cX4_canStand RX4 3 D tc b0) (hr : meth.sig.returnType = (some FieldType.boolean)) (hS : va_S (AA b0) s.heap H locs) (hW : Wd G D tc b0 σ H) (hl : hL b0 ls 3 [none, none, none]) (h : X_X4_canStand_21 G Qx  k0 σ) : W p l e rm_X4_canStand s m args below meth c H locs 0 0 (MQ below (va_Qi Qx (fun u t => Pw G D tc b0 u t) (AA b0)) args s 0 0 (AA b0)) (F0 m 21 ls [.int k0]) := by
  have hx := C.1
  have hb := C.2.1
  unfold X_X4_canStand_21 at h
  exact r_z C hr hW hS h.1 h.2 dX4_canStand_21
set_option maxRecDepth 20000 in
set_option maxHeartbeats 4000000 in
theorem t_X4_canStand_8 {p : Program} {l : Launch} {e : Env} {s : State} {m : MethodId} {args : Array Value} {below : List Frame} {meth : Method} {c : Code} {H : Heap} {locs : List Loc} {D : va_G} {tc : Nat → ClassId} {b0 : Nat} {ls : Array Slot} {G : Lay} {Qx : Int32 → Mem → Prop} {l0 : Nat}  {σ : Mem} (C : Cx p s m args meth c cX4_canStand RX4 3 D tc b0) (hr : meth.sig.returnType = (some FieldType.boolean)) (hS : va_S (AA b0) s.heap H locs) (hW : Wd G D tc b0 σ H) (hl : hL b0 ls 3 [some (.inr (.inr l0)), none, none]) (h : X_X4_canStand_8 G Qx l0  σ) : W p l e rm_X4_canStand s m args below meth c H locs 0 0 (MQ below (va_Qi Qx (fun u t => Pw G D tc b0 u t) (AA b0)) args s 0 0 (AA b0)) (F0 m 8 ls []) := by
  have hx := C.1
  have hb := C.2.1
  unfold X_X4_canStand_8 at h
  refine x_aload_n C hl dX4_canStand_8 rfl ?_
  have t1 := h.1
  replace h := h.2
  refine x_get C hW (t := 2) (k := 2) t1 kl_2 (by decide) fl_X4_164 (v := .int (mI σ l0 2)) rfl dX4_canStand_9 ?_
  refine lv_iconst (v := (4 : Int32)) hx hb dX4_canStand_12 (by decide) ?_
  refine lv_icmp_ne hx hb dX4_canStand_13 (tgt := 20) rfl (fun hc => ?_) (fun hc => ?_)
  · replace h := h.2 hc
    refine lv_iconst (v := (0 : Int32)) hx hb dX4_canStand_20 (by decide) ?_
    exact t_X4_canStand_21 C hr hS hW (hl.keep [false, false, false] rfl) h
  · replace h := h.1 hc
    refine lv_iconst (v := (1 : Int32)) hx hb dX4_canStand_16 (by decide) ?_
    refine lv_goto hx hb dX4_canStand_17 (tgt := 21) rfl ?_
    exact t_X4_canStand_21 C hr hS hW (hl.keep [false, false, false] rfl) h
set_option maxRecDepth 20000 in
set_option maxHeartbeats 4000000 in
theorem t_X4_canStand_34 {p : Program} {l : Launch} {e : Env} {s : State} {m : MethodId} {args : Array Value} {below : List Frame} {meth : Method} {c : Code} {H : Heap} {locs : List Loc} {D : va_G} {tc : Nat → ClassId} {b0 : Nat} {ls : Array Slot} {G : Lay} {Qx : Int32 → Mem → Prop}  {k0 : Int32} {σ : Mem} (C : Cx p s m args meth c cX4_canStand RX4 3 D tc b0) (hr : meth.sig.returnType = (some FieldType.boolean)) (hS : va_S (AA b0) s.heap H locs) (hW : Wd G D tc b0 σ H) (hl : hL b0 ls 3 [none, none, none]) (h : X_X4_canStand_34 G Qx  k0 σ) : W p l e rm_X4_canStand s m args below meth c H locs 0 0 (MQ below (va_Qi Qx (fun u t => Pw G D tc b0 u t) (AA b0)) args s 0 0 (AA b0)) (F0 m 34 ls [.int k0]) := by
  have hx := C.1
  have hb := C.2.1
  unfold X_X4_canStand_34 at h
  exact r_z C hr hW hS h.1 h.2 dX4_canStand_34
set_option maxRecDepth 20000 in
set_option maxHeartbeats 4000000 in
theorem t_X4_canStand_0 {p : Program} {l : Launch} {e : Env} {s : State} {m : MethodId} {args : Array Value} {below : List Frame} {meth : Method} {c : Code} {H : Heap} {locs : List Loc} {D : va_G} {tc : Nat → ClassId} {b0 : Nat} {ls : Array Slot} {G : Lay} {Qx : Int32 → Mem → Prop} {l0 : Nat} {l1 : Int32} {l2 : Int32}  {σ : Mem} (C : Cx p s m args meth c cX4_canStand RX4 3 D tc b0) (hr : meth.sig.returnType = (some FieldType.boolean)) (hS : va_S (AA b0) s.heap H locs) (hW : Wd G D tc b0 σ H) (hl : hL b0 ls 3 [some (.inr (.inr l0)), some (.inl l1), some (.inl l2)]) (h : X_X4_canStand_0 G Qx l0 l1 l2  σ) : W p l e rm_X4_canStand s m args below meth c H locs 0 0 (MQ below (va_Qi Qx (fun u t => Pw G D tc b0 u t) (AA b0)) args s 0 0 (AA b0)) (F0 m 0 ls []) := by
  have hx := C.1
  have hb := C.2.1
  unfold X_X4_canStand_0 at h
  refine x_iload_n C hl dX4_canStand_0 rfl ?_
  refine lv_if_ne hx hb dX4_canStand_1 (tgt := 8) rfl (fun hc => ?_) (fun hc => ?_)
  · replace h := h.2 hc
    exact t_X4_canStand_8 C hr hS hW (hl.keep [true, false, false] rfl) h
  · replace h := h.1 hc
    refine x_iload_n C hl dX4_canStand_4 rfl ?_
    refine lv_if_eq hx hb dX4_canStand_5 (tgt := 22) rfl (fun hc => ?_) (fun hc => ?_)
    · replace h := h.1 hc
      refine x_aload_n C hl dX4_canStand_22 rfl ?_
      have t1 := h.1
      replace h := h.2
      refine y_i (x_run (As := []) C hW hS (T_X2_isLeading l l0 σ _ h) t1 kl_2 (CW.of yv_X2_isLeading ml_X4_167) ⟨rfl, rfl, ⟨by decide, by decide⟩, by decide, by decide⟩ rfl hl.1 rfl (by decide) dX4_canStand_23) hS (fun w3 s2 H locs h hW hS => ?_)
      refine lv_if_ne hx hb dX4_canStand_26 (tgt := 33) rfl (fun hc => ?_) (fun hc => ?_)
      · replace h := h.2 hc
        refine lv_iconst (v := (0 : Int32)) hx hb dX4_canStand_33 (by decide) ?_
        exact t_X4_canStand_34 C hr hS hW (hl.keep [false, false, false] rfl) h
      · replace h := h.1 hc
        refine lv_iconst (v := (1 : Int32)) hx hb dX4_canStand_29 (by decide) ?_
        refine lv_goto hx hb dX4_canStand_30 (tgt := 34) rfl ?_
        exact t_X4_canStand_34 C hr hS hW (hl.keep [false, false, false] rfl) h
    · replace h := h.2 hc
      exact t_X4_canStand_8 C hr hS hW (hl.keep [true, false, false] rfl) h
theorem T_X4_canStand (l : Launch) {G : Lay} {D : va_G} {tc : Nat → ClassId} {b0 : Nat} (l0 : Nat) (l1 : Int32) (l2 : Int32) (σ : Mem) (Qx : Int32 → Mem → Prop) (h : X_X4_canStand G Qx l0 l1 l2 σ) : MI l yX4_canStand cX4_canStand 3 ((some FieldType.boolean)) rm_X4_canStand G D tc b0 [rv b0 l0, .int l1, .int l2] σ Qx :=
  x_entry (y := yX4_canStand) [.inr (.inr l0), .inl l1, .inl l2] 0 (by decide) (Nat.le_of_ble_eq_true rfl) (fun p e s m args below meth c ls C hr hW hl => t_X4_canStand_0 C hr va_S.rf hW (hl.keep [true, true, true] rfl) h)
/-! X4_readPath -/
set_option maxRecDepth 20000 in
set_option maxHeartbeats 4000000 in
theorem t_X4_readPath_123 {p : Program} {l : Launch} {e : Env} {s : State} {m : MethodId} {args : Array Value} {below : List Frame} {meth : Method} {c : Code} {H : Heap} {locs : List Loc} {D : va_G} {tc : Nat → ClassId} {b0 : Nat} {ls : Array Slot} {G : Lay} {Qx : Nat → Mem → Prop} {l0 : Nat}  {σ : Mem} (C : Cx p s m args meth c cX4_readPath RX4 8 D tc b0) (hr : meth.sig.returnType = (some (FieldType.object "BeeRegister$Member"))) (hS : va_S (AA b0) s.heap H locs) (hW : Wd G D tc b0 σ H) (hl : hL b0 ls 8 [some (.inr (.inr l0)), none, none, none, none, none, none, none]) (h : X_X4_readPath_123 G Qx l0  σ) : W p l e rm_X4_readPath s m args below meth c H locs 0 0 (MQ below (va_Qq (fun o u => ∃ r, o = ro b0 r ∧ Qx r u) (fun u t => Pw G D tc b0 u t) (AA b0)) args s 0 0 (AA b0)) (F0 m 123 ls []) := by
  have hx := C.1
  have hb := C.2.1
  unfold X_X4_readPath_123 at h
  refine x_aload_n C hl dX4_readPath_123 rfl ?_
  have t1 := h.1
  replace h := h.2
  refine x_get C hW (t := 4) (k := 0) t1 kl_4 (by decide) fl_X4_15 (v := rv b0 (mR σ l0 0)) rfl dX4_readPath_124 ?_
  refine lv_iconst (v := (3 : Int32)) hx hb dX4_readPath_127 (by decide) ?_
  have t2 := h.1
  replace h := h.2
  refine y_i (x_run (As := [.int (3 : Int32)]) C hW hS (T_X8_refuse l (mR σ l0 0) (3 : Int32) σ _ h) t2 kl_8 (CW.of yv_X8_refuse ml_X4_46) ⟨rfl, rfl, ⟨by decide, by decide⟩, by decide, by decide⟩ rfl hl.1 rfl (by decide) dX4_readPath_128) hS (fun w4 s3 H locs h hW hS => ?_)
  refine lv_pop hx hb dX4_readPath_131 rfl ?_
  refine x_null C dX4_readPath_132 ?_
  exact r_r C hr hW hS h dX4_readPath_133
set_option maxRecDepth 20000 in
set_option maxHeartbeats 4000000 in
theorem t_X4_readPath_178 {p : Program} {l : Launch} {e : Env} {s : State} {m : MethodId} {args : Array Value} {below : List Frame} {meth : Method} {c : Code} {H : Heap} {locs : List Loc} {D : va_G} {tc : Nat → ClassId} {b0 : Nat} {ls : Array Slot} {G : Lay} {Qx : Nat → Mem → Prop} {l0 : Nat} {l1 : Int32} {l2 : Int32} {l3 : Int32} {l4 : Int32} {l5 : Nat} {l6 : Int32}  {K33 : Int32 × Int32 × Nat × Int32 × Mem → Prop} {σ : Mem} (C : Cx p s m args meth c cX4_readPath RX4 8 D tc b0) (hr : meth.sig.returnType = (some (FieldType.object "BeeRegister$Member"))) (hK33 : ∀ (x3 : Int32) (x4 : Int32) (x5 : Nat) (x6 : Int32) (σ : Mem) (H : Heap) (locs : List Loc) (ls : Array Slot), va_S (AA b0) s.heap H locs → Wd G D tc b0 σ H → hL b0 ls 8 [some (.inr (.inr l0)), some (.inl l1), some (.inl l2), some (.inl x3), some (.inl x4), some (.inr (.inr x5)), some (.inl x6), none] → K33 (x3, x4, x5, x6, σ) → W p l e rm_X4_readPath s m args below meth c H locs 0 0 (MQ below (va_Qq (fun o u => ∃ r, o = ro b0 r ∧ Qx r u) (fun u t => Pw G D tc b0 u t) (AA b0)) args s 0 0 (AA b0)) (F0 m 33 ls [])) (hS : va_S (AA b0) s.heap H locs) (hW : Wd G D tc b0 σ H) (hl : hL b0 ls 8 [some (.inr (.inr l0)), some (.inl l1), some (.inl l2), some (.inl l3), some (.inl l4), some (.inr (.inr l5)), some (.inl l6), none]) (h : X_X4_readPath_178 G Qx K33 l0 l1 l2 l3 l4 l5 l6  σ) : W p l e rm_X4_readPath s m args below meth c H locs 0 0 (MQ below (va_Qq (fun o u => ∃ r, o = ro b0 r ∧ Qx r u) (fun u t => Pw G D tc b0 u t) (AA b0)) args s 0 0 (AA b0)) (F0 m 178 ls []) := by
  have hx := C.1
  have hb := C.2.1
  unfold X_X4_readPath_178 at h
  refine x_iinc C hl dX4_readPath_178 rfl (v := (1 : Int32)) (by decide) (by decide) rfl (fun ls hl => ?_)
  refine lv_goto hx hb dX4_readPath_181 (tgt := 33) rfl ?_
  exact hK33 _ _ _ _ _ _ _ _ hS hW (hl.keep [true, true, true, true, true, true, true, false] rfl) h
set_option maxRecDepth 20000 in
set_option maxHeartbeats 4000000 in
theorem t_X4_readPath_184 {p : Program} {l : Launch} {e : Env} {s : State} {m : MethodId} {args : Array Value} {below : List Frame} {meth : Method} {c : Code} {H : Heap} {locs : List Loc} {D : va_G} {tc : Nat → ClassId} {b0 : Nat} {ls : Array Slot} {G : Lay} {Qx : Nat → Mem → Prop} {l5 : Nat}  {σ : Mem} (C : Cx p s m args meth c cX4_readPath RX4 8 D tc b0) (hr : meth.sig.returnType = (some (FieldType.object "BeeRegister$Member"))) (hS : va_S (AA b0) s.heap H locs) (hW : Wd G D tc b0 σ H) (hl : hL b0 ls 8 [none, none, none, none, none, some (.inr (.inr l5)), none, none]) (h : X_X4_readPath_184 G Qx l5  σ) : W p l e rm_X4_readPath s m args below meth c H locs 0 0 (MQ below (va_Qq (fun o u => ∃ r, o = ro b0 r ∧ Qx r u) (fun u t => Pw G D tc b0 u t) (AA b0)) args s 0 0 (AA b0)) (F0 m 184 ls []) := by
  have hx := C.1
  have hb := C.2.1
  unfold X_X4_readPath_184 at h
  refine x_aload C hl dX4_readPath_184 rfl ?_
  exact r_r C hr hW hS h dX4_readPath_186
set_option maxRecDepth 20000 in
set_option maxHeartbeats 4000000 in
theorem t_X4_readPath_33_n {p : Program} {l : Launch} {e : Env} {s : State} {m : MethodId} {args : Array Value} {below : List Frame} {meth : Method} {c : Code} {D : va_G} {tc : Nat → ClassId} {b0 : Nat} {G : Lay} {Qx : Nat → Mem → Prop} {l0 : Nat} {l1 : Int32} {l2 : Int32} (C : Cx p s m args meth c cX4_readPath RX4 8 D tc b0) (hr : meth.sig.returnType = (some (FieldType.object "BeeRegister$Member"))) (n : Nat) : ∀ (l3 : Int32) (l4 : Int32) (l5 : Nat) (l6 : Int32) (σ : Mem) (H : Heap) (locs : List Loc) (ls : Array Slot), va_S (AA b0) s.heap H locs → Wd G D tc b0 σ H → hL b0 ls 8 [some (.inr (.inr l0)), some (.inl l1), some (.inl l2), some (.inl l3), some (.inl l4), some (.inr (.inr l5)), some (.inl l6), none] → Lp (X_X4_readPath_33_s G Qx l0 l1 l2) n (l3, l4, l5, l6, σ) → W p l e rm_X4_readPath s m args below meth c H locs 0 0 (MQ below (va_Qq (fun o u => ∃ r, o = ro b0 r ∧ Qx r u) (fun u t => Pw G D tc b0 u t) (AA b0)) args s 0 0 (AA b0)) (F0 m 33 ls []) := by
  have hx := C.1
  have hb := C.2.1
  induction n with
  | zero => intro l3 l4 l5 l6 σ H locs ls hS hW hl h; exact False.elim h
  | succ n hK33 =>
    intro l3 l4 l5 l6 σ H locs ls hS hW hl h
    replace h : X_X4_readPath_33_s G Qx l0 l1 l2 (Lp (X_X4_readPath_33_s G Qx l0 l1 l2) n) (l3, l4, l5, l6, σ) := h
    unfold X_X4_readPath_33_s at h
    refine x_iload C hl dX4_readPath_33 rfl ?_
    refine lv_sipush (v := (3000 : Int32)) hx hb dX4_readPath_35 (by decide) ?_
    refine lv_icmp_gt hx hb dX4_readPath_38 (tgt := 184) rfl (fun hc => ?_) (fun hc => ?_)
    · replace h := h.1 hc
      exact t_X4_readPath_184 C hr hS hW (hl.keep [false, false, false, false, false, true, false, false] rfl) h
    · replace h := h.2 hc
      refine x_iload C hl dX4_readPath_41 rfl ?_
      refine lv_if_eq hx hb dX4_readPath_43 (tgt := 184) rfl (fun hc => ?_) (fun hc => ?_)
      · replace h := h.1 hc
        exact t_X4_readPath_184 C hr hS hW (hl.keep [false, false, false, false, false, true, false, false] rfl) h
      · replace h := h.2 hc
        refine x_aload_n C hl dX4_readPath_46 rfl ?_
        have t1 := h.1
        replace h := h.2
        refine x_get C hW (t := 4) (k := 0) t1 kl_4 (by decide) fl_X4_15 (v := rv b0 (mR σ l0 0)) rfl dX4_readPath_47 ?_
        have t2 := h.1
        replace h := h.2
        refine y_i (x_run (As := []) C hW hS (T_X8_isName l (mR σ l0 0) σ _ h) t2 kl_8 (CW.of yv_X8_isName ml_X4_27) ⟨rfl, rfl, ⟨by decide, by decide⟩, by decide, by decide⟩ rfl hl.1 rfl (by decide) dX4_readPath_50) hS (fun w4 s3 H locs h hW hS => ?_)
        refine lv_if_ne hx hb dX4_readPath_53 (tgt := 66) rfl (fun hc => ?_) (fun hc => ?_)
        · replace h := h.2 hc
          refine x_aload_n C hl dX4_readPath_66 rfl ?_
          refine x_get C hW (t := 4) (k := 2) t1 kl_4 (by decide) fl_X4_23 (v := rv b0 (mR s3 l0 2)) rfl dX4_readPath_67 ?_
          refine x_iload_n C hl dX4_readPath_70 rfl ?_
          refine x_aload_n C hl dX4_readPath_71 rfl ?_
          refine x_get C hW (t := 4) (k := 0) t1 kl_4 (by decide) fl_X4_15 (v := rv b0 (mR s3 l0 0)) rfl dX4_readPath_72 ?_
          have t5 := h.1
          replace h := h.2
          refine y_l (x_run (As := []) C hW hS (T_X8_word l (mR s3 l0 0) s3 _ h) t5 kl_8 (CW.of yv_X8_word ml_X4_36) ⟨rfl, rfl, ⟨by decide, by decide⟩, by decide, by decide⟩ rfl hl.1 rfl (by simp [rv_cat, cat_i, cat_l]) dX4_readPath_75) hS (fun w7 s6 H locs h hW hS => ?_)
          have t8 := h.1
          replace h := h.2
          refine y_i (x_run (As := [.int l3, .long w7]) C hW hS (T_X6_memberNamed l (mR s3 l0 2) l3 w7 s6 _ h) t8 kl_6 (CW.of yv_X6_memberNamed ml_X4_138) ⟨rfl, rfl, ⟨by decide, by decide⟩, by decide, by decide⟩ rfl hl.1 rfl (by decide) dX4_readPath_78) hS (fun w10 s9 H locs h hW hS => ?_)
          refine x_istore C hl dX4_readPath_81 (by decide) rfl (fun ls hl => ?_)
          refine x_aload_n C hl dX4_readPath_83 rfl ?_
          refine x_get C hW (t := 4) (k := 2) t1 kl_4 (by decide) fl_X4_23 (v := rv b0 (mR s9 l0 2)) rfl dX4_readPath_84 ?_
          refine x_iload_n C hl dX4_readPath_87 rfl ?_
          refine x_iload C hl dX4_readPath_88 rfl ?_
          have t11 := h.1
          replace h := h.2
          refine y_r (x_run (As := [.int l3, .int w10]) C hW hS (T_X6_memberAt l (mR s9 l0 2) l3 w10 s9 _ h) t11 kl_6 (CW.of yv_X6_memberAt ml_X4_142) ⟨rfl, rfl, ⟨by decide, by decide⟩, by decide, by decide⟩ rfl hl.1 rfl (by decide) dX4_readPath_90) hS (fun w13 s12 H locs h hW hS => ?_)
          refine x_astore C hl dX4_readPath_93 (by decide) rfl (fun ls hl => ?_)
          refine x_aload_n C hl dX4_readPath_95 rfl ?_
          refine x_get C hW (t := 4) (k := 0) t1 kl_4 (by decide) fl_X4_15 (v := rv b0 (mR s12 l0 0)) rfl dX4_readPath_96 ?_
          refine lv_ldc2 (own := RX4) (v := (46 : Int64)) hx hb C.2.2.2.1 (C.2.2.2.2.1 _ (gc6 143 rfl rfl)) dX4_readPath_99 ?_
          have t14 := h.1
          replace h := h.2
          refine y_i (x_run (As := [.long (46 : Int64)]) C hW hS (T_X8_isAhead l (mR s12 l0 0) (46 : Int64) s12 _ h) t14 kl_8 (CW.of yv_X8_isAhead ml_X4_148) ⟨rfl, rfl, ⟨by decide, by decide⟩, by decide, by decide⟩ rfl hl.1 rfl (by decide) dX4_readPath_102) hS (fun w16 s15 H locs h hW hS => ?_)
          refine x_istore C hl dX4_readPath_105 (by decide) rfl (fun ls hl => ?_)
          refine x_aload C hl dX4_readPath_107 rfl ?_
          refine x_ifnull C dX4_readPath_109 (tgt := 123) rfl (fun hc => ?_) (fun hc => ?_)
          · replace h := h.1 hc
            exact t_X4_readPath_123 C hr hS hW (hl.keep [true, false, false, false, false, false, false, false] rfl) h
          · replace h := h.2 hc
            refine x_aload C hl dX4_readPath_112 rfl ?_
            refine x_iload C hl dX4_readPath_114 rfl ?_
            refine x_iload_n C hl dX4_readPath_116 rfl ?_
            refine y_i (x_runS (As := [rv b0 w13, .int w16, .int l1]) C hW hS (T_X4_canStand l w13 w16 l1 s15 _ h) (CS.of yv_X4_canStand ml_X4_151) ⟨rfl, rfl, ⟨by decide, by decide⟩, by decide, by decide⟩ rfl hl.1 rfl (by decide) dX4_readPath_117) hS (fun w18 s17 H locs h hW hS => ?_)
            refine lv_if_ne hx hb dX4_readPath_120 (tgt := 134) rfl (fun hc => ?_) (fun hc => ?_)
            · replace h := h.2 hc
              refine x_aload_n C hl dX4_readPath_134 rfl ?_
              refine x_get C hW (t := 4) (k := 1) t1 kl_4 (by decide) fl_X4_19 (v := rv b0 (mR s17 l0 1)) rfl dX4_readPath_135 ?_
              refine x_iload C hl dX4_readPath_138 rfl ?_
              have t19 := h.1
              replace h := h.2
              refine y_v (x_run (As := [.int w10]) C hW hS (T_X3_add l (mR s17 l0 1) w10 s17 _ h) t19 kl_3 (CW.of yv_X3_add ml_X4_116) ⟨rfl, rfl, ⟨by decide, by decide⟩, by decide, by decide⟩ rfl hl.1 rfl (by decide) dX4_readPath_140) hS (fun s20 H locs h hW hS => ?_)
              refine x_aload_n C hl dX4_readPath_143 rfl ?_
              refine x_get C hW (t := 4) (k := 1) t1 kl_4 (by decide) fl_X4_19 (v := rv b0 (mR s20 l0 1)) rfl dX4_readPath_144 ?_
              refine x_iload_n C hl dX4_readPath_147 rfl ?_
              refine x_iload C hl dX4_readPath_148 rfl ?_
              have t21 := h.1
              replace h := h.2
              refine y_v (x_run (As := [.int l2, .int l6]) C hW hS (T_X3_set l (mR s20 l0 1) l2 l6 s20 _ h) t21 kl_3 (CW.of yv_X3_set ml_X4_155) ⟨rfl, rfl, ⟨by decide, by decide⟩, by decide, by decide⟩ rfl hl.1 rfl (by decide) dX4_readPath_150) hS (fun s22 H locs h hW hS => ?_)
              refine x_aload_n C hl dX4_readPath_153 rfl ?_
              refine x_get C hW (t := 4) (k := 0) t1 kl_4 (by decide) fl_X4_15 (v := rv b0 (mR s22 l0 0)) rfl dX4_readPath_154 ?_
              have t23 := h.1
              replace h := h.2
              refine y_v (x_run (As := []) C hW hS (T_X8_pass l (mR s22 l0 0) s22 _ h) t23 kl_8 (CW.of yv_X8_pass ml_X4_56) ⟨rfl, rfl, ⟨by decide, by decide⟩, by decide, by decide⟩ rfl hl.1 rfl (by decide) dX4_readPath_157) hS (fun s24 H locs h hW hS => ?_)
              refine x_iload C hl dX4_readPath_160 rfl ?_
              refine lv_if_eq hx hb dX4_readPath_162 (tgt := 178) rfl (fun hc => ?_) (fun hc => ?_)
              · replace h := h.1 hc
                exact t_X4_readPath_178 C hr hK33 hS hW (hl.keep [true, true, true, true, true, true, true, false] rfl) h
              · replace h := h.2 hc
                refine x_aload_n C hl dX4_readPath_165 rfl ?_
                refine x_get C hW (t := 4) (k := 0) t1 kl_4 (by decide) fl_X4_15 (v := rv b0 (mR s24 l0 0)) rfl dX4_readPath_166 ?_
                have t25 := h.1
                replace h := h.2
                refine y_v (x_run (As := []) C hW hS (T_X8_pass l (mR s24 l0 0) s24 _ h) t25 kl_8 (CW.of yv_X8_pass ml_X4_56) ⟨rfl, rfl, ⟨by decide, by decide⟩, by decide, by decide⟩ rfl hl.1 rfl (by decide) dX4_readPath_169) hS (fun s26 H locs h hW hS => ?_)
                refine x_aload C hl dX4_readPath_172 rfl ?_
                have t27 := h.1
                replace h := h.2
                refine x_get C hW (t := 2) (k := 8) t27 kl_2 (by decide) fl_X4_159 (v := .int (mI s26 w13 8)) rfl dX4_readPath_174 ?_
                refine x_istore_n C hl dX4_readPath_177 (by decide) rfl (fun ls hl => ?_)
                exact t_X4_readPath_178 C hr hK33 hS hW (hl.keep [true, true, true, true, true, true, true, false] rfl) h
            · replace h := h.1 hc
              exact t_X4_readPath_123 C hr hS hW (hl.keep [true, false, false, false, false, false, false, false] rfl) h
        · replace h := h.1 hc
          refine x_aload_n C hl dX4_readPath_56 rfl ?_
          refine x_get C hW (t := 4) (k := 0) t1 kl_4 (by decide) fl_X4_15 (v := rv b0 (mR s3 l0 0)) rfl dX4_readPath_57 ?_
          have t28 := h.1
          replace h := h.2
          refine y_i (x_run (As := []) C hW hS (T_X8_misplaced l (mR s3 l0 0) s3 _ h) t28 kl_8 (CW.of yv_X8_misplaced ml_X4_33) ⟨rfl, rfl, ⟨by decide, by decide⟩, by decide, by decide⟩ rfl hl.1 rfl (by decide) dX4_readPath_60) hS (fun w30 s29 H locs h hW hS => ?_)
          refine lv_pop hx hb dX4_readPath_63 rfl ?_
          refine x_null C dX4_readPath_64 ?_
          exact r_r C hr hW hS h dX4_readPath_65
set_option maxRecDepth 20000 in
set_option maxHeartbeats 4000000 in
theorem t_X4_readPath_33 {p : Program} {l : Launch} {e : Env} {s : State} {m : MethodId} {args : Array Value} {below : List Frame} {meth : Method} {c : Code} {H : Heap} {locs : List Loc} {D : va_G} {tc : Nat → ClassId} {b0 : Nat} {ls : Array Slot} {G : Lay} {Qx : Nat → Mem → Prop} {l0 : Nat} {l1 : Int32} {l2 : Int32} {l3 : Int32} {l4 : Int32} {l5 : Nat} {l6 : Int32}  {σ : Mem} (C : Cx p s m args meth c cX4_readPath RX4 8 D tc b0) (hr : meth.sig.returnType = (some (FieldType.object "BeeRegister$Member"))) (hS : va_S (AA b0) s.heap H locs) (hW : Wd G D tc b0 σ H) (hl : hL b0 ls 8 [some (.inr (.inr l0)), some (.inl l1), some (.inl l2), some (.inl l3), some (.inl l4), some (.inr (.inr l5)), some (.inl l6), none]) (h : X_X4_readPath_33 G Qx l0 l1 l2 l3 l4 l5 l6 σ) : W p l e rm_X4_readPath s m args below meth c H locs 0 0 (MQ below (va_Qq (fun o u => ∃ r, o = ro b0 r ∧ Qx r u) (fun u t => Pw G D tc b0 u t) (AA b0)) args s 0 0 (AA b0)) (F0 m 33 ls []) := by
  obtain ⟨n, h⟩ := h
  exact t_X4_readPath_33_n C hr n l3 l4 l5 l6 σ H locs ls hS hW hl h
set_option maxRecDepth 20000 in
set_option maxHeartbeats 4000000 in
theorem t_X4_readPath_0 {p : Program} {l : Launch} {e : Env} {s : State} {m : MethodId} {args : Array Value} {below : List Frame} {meth : Method} {c : Code} {H : Heap} {locs : List Loc} {D : va_G} {tc : Nat → ClassId} {b0 : Nat} {ls : Array Slot} {G : Lay} {Qx : Nat → Mem → Prop} {l0 : Nat} {l1 : Int32}  {σ : Mem} (C : Cx p s m args meth c cX4_readPath RX4 8 D tc b0) (hr : meth.sig.returnType = (some (FieldType.object "BeeRegister$Member"))) (hS : va_S (AA b0) s.heap H locs) (hW : Wd G D tc b0 σ H) (hl : hL b0 ls 8 [some (.inr (.inr l0)), some (.inl l1), none, none, none, none, none, none]) (h : X_X4_readPath_0 G Qx l0 l1  σ) : W p l e rm_X4_readPath s m args below meth c H locs 0 0 (MQ below (va_Qq (fun o u => ∃ r, o = ro b0 r ∧ Qx r u) (fun u t => Pw G D tc b0 u t) (AA b0)) args s 0 0 (AA b0)) (F0 m 0 ls []) := by
  have hx := C.1
  have hb := C.2.1
  unfold X_X4_readPath_0 at h
  refine x_aload_n C hl dX4_readPath_0 rfl ?_
  have t1 := h.1
  replace h := h.2
  refine x_get C hW (t := 4) (k := 1) t1 kl_4 (by decide) fl_X4_19 (v := rv b0 (mR σ l0 1)) rfl dX4_readPath_1 ?_
  have t2 := h.1
  replace h := h.2
  refine x_get C hW (t := 3) (k := 1) t2 kl_3 (by decide) fl_X4_132 (v := .int (mI σ (mR σ l0 1) 1)) rfl dX4_readPath_4 ?_
  refine x_istore_n C hl dX4_readPath_7 (by decide) rfl (fun ls hl => ?_)
  refine x_aload_n C hl dX4_readPath_8 rfl ?_
  refine x_get C hW (t := 4) (k := 1) t1 kl_4 (by decide) fl_X4_19 (v := rv b0 (mR σ l0 1)) rfl dX4_readPath_9 ?_
  refine lv_iconst (v := (0 : Int32)) hx hb dX4_readPath_12 (by decide) ?_
  refine y_v (x_run (As := [.int (0 : Int32)]) C hW hS (T_X3_add l (mR σ l0 1) (0 : Int32) σ _ h) t2 kl_3 (CW.of yv_X3_add ml_X4_116) ⟨rfl, rfl, ⟨by decide, by decide⟩, by decide, by decide⟩ rfl hl.1 rfl (by decide) dX4_readPath_13) hS (fun s3 H locs h hW hS => ?_)
  refine x_aload_n C hl dX4_readPath_16 rfl ?_
  refine x_get C hW (t := 4) (k := 1) t1 kl_4 (by decide) fl_X4_19 (v := rv b0 (mR s3 l0 1)) rfl dX4_readPath_17 ?_
  have t4 := h.1
  replace h := h.2
  refine x_get C hW (t := 3) (k := 0) t4 kl_3 (by decide) fl_X4_135 (v := .int (mI s3 (mR s3 l0 1) 0)) rfl dX4_readPath_20 ?_
  refine x_istore_n C hl dX4_readPath_23 (by decide) rfl (fun ls hl => ?_)
  refine lv_iconst (v := (1 : Int32)) hx hb dX4_readPath_24 (by decide) ?_
  refine x_istore C hl dX4_readPath_25 (by decide) rfl (fun ls hl => ?_)
  refine x_null C dX4_readPath_27 ?_
  refine x_astore C hl dX4_readPath_28 (by decide) rfl (fun ls hl => ?_)
  refine lv_iconst (v := (1 : Int32)) hx hb dX4_readPath_30 (by decide) ?_
  refine x_istore C hl dX4_readPath_31 (by decide) rfl (fun ls hl => ?_)
  exact t_X4_readPath_33 C hr hS hW (hl.keep [true, true, true, true, true, true, true, false] rfl) h
theorem T_X4_readPath (l : Launch) {G : Lay} {D : va_G} {tc : Nat → ClassId} {b0 : Nat} (l0 : Nat) (l1 : Int32) (σ : Mem) (Qx : Nat → Mem → Prop) (h : X_X4_readPath G Qx l0 l1 σ) : MR l yX4_readPath cX4_readPath 8 ((some (FieldType.object "BeeRegister$Member"))) rm_X4_readPath G D tc b0 [rv b0 l0, .int l1] σ Qx :=
  x_entry (y := yX4_readPath) [.inr (.inr l0), .inl l1] 6 (by decide) (Nat.le_of_ble_eq_true rfl) (fun p e s m args below meth c ls C hr hW hl => t_X4_readPath_0 C hr va_S.rf hW (hl.keep [true, true, false, false, false, false, false, false] rfl) h)
/-! X4_readSign -/
set_option maxRecDepth 20000 in
set_option maxHeartbeats 4000000 in
theorem t_X4_readSign_47 {p : Program} {l : Launch} {e : Env} {s : State} {m : MethodId} {args : Array Value} {below : List Frame} {meth : Method} {c : Code} {H : Heap} {locs : List Loc} {D : va_G} {tc : Nat → ClassId} {b0 : Nat} {ls : Array Slot} {G : Lay} {Qx : Int32 → Mem → Prop} {l0 : Nat}  {σ : Mem} (C : Cx p s m args meth c cX4_readSign RX4 1 D tc b0) (hr : meth.sig.returnType = (some FieldType.boolean)) (hS : va_S (AA b0) s.heap H locs) (hW : Wd G D tc b0 σ H) (hl : hL b0 ls 1 [some (.inr (.inr l0))]) (h : X_X4_readSign_47 G Qx l0  σ) : W p l e rm_X4_readSign s m args below meth c H locs 0 0 (MQ below (va_Qi Qx (fun u t => Pw G D tc b0 u t) (AA b0)) args s 0 0 (AA b0)) (F0 m 47 ls []) := by
  have hx := C.1
  have hb := C.2.1
  unfold X_X4_readSign_47 at h
  refine x_aload_n C hl dX4_readSign_47 rfl ?_
  have t1 := h.1
  replace h := h.2
  refine x_get C hW (t := 4) (k := 1) t1 kl_4 (by decide) fl_X4_19 (v := rv b0 (mR σ l0 1)) rfl dX4_readSign_48 ?_
  refine x_aload_n C hl dX4_readSign_51 rfl ?_
  refine x_get C hW (t := 4) (k := 0) t1 kl_4 (by decide) fl_X4_15 (v := rv b0 (mR σ l0 0)) rfl dX4_readSign_52 ?_
  have t2 := h.1
  replace h := h.2
  refine y_l (x_run (As := []) C hW hS (T_X8_word l (mR σ l0 0) σ _ h) t2 kl_8 (CW.of yv_X8_word ml_X4_36) ⟨rfl, rfl, ⟨by decide, by decide⟩, by decide, by decide⟩ rfl hl.1 rfl (by simp [rv_cat, cat_i, cat_l]) dX4_readSign_55) hS (fun w4 s3 H locs h hW hS => ?_)
  refine lv_l2i hx hb dX4_readSign_58 rfl ?_
  have t5 := h.1
  replace h := h.2
  refine y_v (x_run (As := [.int (w4.toInt32)]) C hW hS (T_X3_add l (mR σ l0 1) (w4.toInt32) s3 _ h) t5 kl_3 (CW.of yv_X3_add ml_X4_116) ⟨rfl, rfl, ⟨by decide, by decide⟩, by decide, by decide⟩ rfl hl.1 rfl (by decide) dX4_readSign_59) hS (fun s6 H locs h hW hS => ?_)
  refine x_aload_n C hl dX4_readSign_62 rfl ?_
  refine x_get C hW (t := 4) (k := 0) t1 kl_4 (by decide) fl_X4_15 (v := rv b0 (mR s6 l0 0)) rfl dX4_readSign_63 ?_
  have t7 := h.1
  replace h := h.2
  refine y_v (x_run (As := []) C hW hS (T_X8_pass l (mR s6 l0 0) s6 _ h) t7 kl_8 (CW.of yv_X8_pass ml_X4_56) ⟨rfl, rfl, ⟨by decide, by decide⟩, by decide, by decide⟩ rfl hl.1 rfl (by decide) dX4_readSign_66) hS (fun s8 H locs h hW hS => ?_)
  refine lv_iconst (v := (1 : Int32)) hx hb dX4_readSign_69 (by decide) ?_
  exact r_z C hr hW hS h.1 h.2 dX4_readSign_70
set_option maxRecDepth 20000 in
set_option maxHeartbeats 4000000 in
theorem t_X4_readSign_0 {p : Program} {l : Launch} {e : Env} {s : State} {m : MethodId} {args : Array Value} {below : List Frame} {meth : Method} {c : Code} {H : Heap} {locs : List Loc} {D : va_G} {tc : Nat → ClassId} {b0 : Nat} {ls : Array Slot} {G : Lay} {Qx : Int32 → Mem → Prop} {l0 : Nat}  {σ : Mem} (C : Cx p s m args meth c cX4_readSign RX4 1 D tc b0) (hr : meth.sig.returnType = (some FieldType.boolean)) (hS : va_S (AA b0) s.heap H locs) (hW : Wd G D tc b0 σ H) (hl : hL b0 ls 1 [some (.inr (.inr l0))]) (h : X_X4_readSign_0 G Qx l0  σ) : W p l e rm_X4_readSign s m args below meth c H locs 0 0 (MQ below (va_Qi Qx (fun u t => Pw G D tc b0 u t) (AA b0)) args s 0 0 (AA b0)) (F0 m 0 ls []) := by
  have hx := C.1
  have hb := C.2.1
  unfold X_X4_readSign_0 at h
  refine x_aload_n C hl dX4_readSign_0 rfl ?_
  have t1 := h.1
  replace h := h.2
  refine x_get C hW (t := 4) (k := 0) t1 kl_4 (by decide) fl_X4_15 (v := rv b0 (mR σ l0 0)) rfl dX4_readSign_1 ?_
  refine lv_ldc2 (own := RX4) (v := (61 : Int64)) hx hb C.2.2.2.1 (C.2.2.2.2.1 _ (gc6 160 rfl rfl)) dX4_readSign_4 ?_
  have t2 := h.1
  replace h := h.2
  refine y_i (x_run (As := [.long (61 : Int64)]) C hW hS (T_X8_isAt l (mR σ l0 0) (61 : Int64) σ _ h) t2 kl_8 (CW.of yv_X8_isAt ml_X4_102) ⟨rfl, rfl, ⟨by decide, by decide⟩, by decide, by decide⟩ rfl hl.1 rfl (by decide) dX4_readSign_7) hS (fun w4 s3 H locs h hW hS => ?_)
  refine lv_if_ne hx hb dX4_readSign_10 (tgt := 47) rfl (fun hc => ?_) (fun hc => ?_)
  · replace h := h.2 hc
    exact t_X4_readSign_47 C hr hS hW (hl.keep [true] rfl) h
  · replace h := h.1 hc
    refine x_aload_n C hl dX4_readSign_13 rfl ?_
    refine x_get C hW (t := 4) (k := 0) t1 kl_4 (by decide) fl_X4_15 (v := rv b0 (mR s3 l0 0)) rfl dX4_readSign_14 ?_
    refine lv_ldc2 (own := RX4) (v := (60 : Int64)) hx hb C.2.2.2.1 (C.2.2.2.2.1 _ (gc6 161 rfl rfl)) dX4_readSign_17 ?_
    have t5 := h.1
    replace h := h.2
    refine y_i (x_run (As := [.long (60 : Int64)]) C hW hS (T_X8_isAt l (mR s3 l0 0) (60 : Int64) s3 _ h) t5 kl_8 (CW.of yv_X8_isAt ml_X4_102) ⟨rfl, rfl, ⟨by decide, by decide⟩, by decide, by decide⟩ rfl hl.1 rfl (by decide) dX4_readSign_20) hS (fun w7 s6 H locs h hW hS => ?_)
    refine lv_if_ne hx hb dX4_readSign_23 (tgt := 47) rfl (fun hc => ?_) (fun hc => ?_)
    · replace h := h.2 hc
      exact t_X4_readSign_47 C hr hS hW (hl.keep [true] rfl) h
    · replace h := h.1 hc
      refine x_aload_n C hl dX4_readSign_26 rfl ?_
      refine x_get C hW (t := 4) (k := 0) t1 kl_4 (by decide) fl_X4_15 (v := rv b0 (mR s6 l0 0)) rfl dX4_readSign_27 ?_
      refine lv_ldc2 (own := RX4) (v := (62 : Int64)) hx hb C.2.2.2.1 (C.2.2.2.2.1 _ (gc6 162 rfl rfl)) dX4_readSign_30 ?_
      have t8 := h.1
      replace h := h.2
      refine y_i (x_run (As := [.long (62 : Int64)]) C hW hS (T_X8_isAt l (mR s6 l0 0) (62 : Int64) s6 _ h) t8 kl_8 (CW.of yv_X8_isAt ml_X4_102) ⟨rfl, rfl, ⟨by decide, by decide⟩, by decide, by decide⟩ rfl hl.1 rfl (by decide) dX4_readSign_33) hS (fun w10 s9 H locs h hW hS => ?_)
      refine lv_if_ne hx hb dX4_readSign_36 (tgt := 47) rfl (fun hc => ?_) (fun hc => ?_)
      · replace h := h.2 hc
        exact t_X4_readSign_47 C hr hS hW (hl.keep [true] rfl) h
      · replace h := h.1 hc
        refine x_aload_n C hl dX4_readSign_39 rfl ?_
        refine x_get C hW (t := 4) (k := 0) t1 kl_4 (by decide) fl_X4_15 (v := rv b0 (mR s9 l0 0)) rfl dX4_readSign_40 ?_
        have t11 := h.1
        replace h := h.2
        refine y_i (x_run (As := []) C hW hS (T_X8_misplaced l (mR s9 l0 0) s9 _ h) t11 kl_8 (CW.of yv_X8_misplaced ml_X4_33) ⟨rfl, rfl, ⟨by decide, by decide⟩, by decide, by decide⟩ rfl hl.1 rfl (by decide) dX4_readSign_43) hS (fun w13 s12 H locs h hW hS => ?_)
        exact r_z C hr hW hS h.1 h.2 dX4_readSign_46
theorem T_X4_readSign (l : Launch) {G : Lay} {D : va_G} {tc : Nat → ClassId} {b0 : Nat} (l0 : Nat) (σ : Mem) (Qx : Int32 → Mem → Prop) (h : X_X4_readSign G Qx l0 σ) : MI l yX4_readSign cX4_readSign 1 ((some FieldType.boolean)) rm_X4_readSign G D tc b0 [rv b0 l0] σ Qx :=
  x_entry (y := yX4_readSign) [.inr (.inr l0)] 0 (by decide) (Nat.le_of_ble_eq_true rfl) (fun p e s m args below meth c ls C hr hW hl => t_X4_readSign_0 C hr va_S.rf hW (hl.keep [true] rfl) h)
/-! X4_readOperand -/
set_option maxRecDepth 20000 in
set_option maxHeartbeats 4000000 in
theorem t_X4_readOperand_112 {p : Program} {l : Launch} {e : Env} {s : State} {m : MethodId} {args : Array Value} {below : List Frame} {meth : Method} {c : Code} {H : Heap} {locs : List Loc} {D : va_G} {tc : Nat → ClassId} {b0 : Nat} {ls : Array Slot} {G : Lay} {Qx : Int32 → Mem → Prop} {l0 : Nat} {k0 : Nat} {k1 : Int32} {σ : Mem} (C : Cx p s m args meth c cX4_readOperand RX4 3 D tc b0) (hr : meth.sig.returnType = (some FieldType.boolean)) (hS : va_S (AA b0) s.heap H locs) (hW : Wd G D tc b0 σ H) (hl : hL b0 ls 3 [some (.inr (.inr l0)), none, none]) (h : X_X4_readOperand_112 G Qx l0 k0 k1 σ) : W p l e rm_X4_readOperand s m args below meth c H locs 0 0 (MQ below (va_Qi Qx (fun u t => Pw G D tc b0 u t) (AA b0)) args s 0 0 (AA b0)) (F0 m 112 ls [.int k1, rv b0 k0]) := by
  have hx := C.1
  have hb := C.2.1
  unfold X_X4_readOperand_112 at h
  have t1 := h.1
  replace h := h.2
  refine y_v (x_run (As := [.int k1]) C hW hS (T_X3_add l k0 k1 σ _ h) t1 kl_3 (CW.of yv_X3_add ml_X4_116) ⟨rfl, rfl, ⟨by decide, by decide⟩, by decide, by decide⟩ rfl hl.1 rfl (by decide) dX4_readOperand_112) hS (fun s2 H locs h hW hS => ?_)
  refine x_aload_n C hl dX4_readOperand_115 rfl ?_
  have t3 := h.1
  replace h := h.2
  refine x_get C hW (t := 4) (k := 0) t3 kl_4 (by decide) fl_X4_15 (v := rv b0 (mR s2 l0 0)) rfl dX4_readOperand_116 ?_
  have t4 := h.1
  replace h := h.2
  refine y_v (x_run (As := []) C hW hS (T_X8_pass l (mR s2 l0 0) s2 _ h) t4 kl_8 (CW.of yv_X8_pass ml_X4_56) ⟨rfl, rfl, ⟨by decide, by decide⟩, by decide, by decide⟩ rfl hl.1 rfl (by decide) dX4_readOperand_119) hS (fun s5 H locs h hW hS => ?_)
  refine lv_iconst (v := (1 : Int32)) hx hb dX4_readOperand_122 (by decide) ?_
  exact r_z C hr hW hS h.1 h.2 dX4_readOperand_123
set_option maxRecDepth 20000 in
set_option maxHeartbeats 4000000 in
theorem t_X4_readOperand_0 {p : Program} {l : Launch} {e : Env} {s : State} {m : MethodId} {args : Array Value} {below : List Frame} {meth : Method} {c : Code} {H : Heap} {locs : List Loc} {D : va_G} {tc : Nat → ClassId} {b0 : Nat} {ls : Array Slot} {G : Lay} {Qx : Int32 → Mem → Prop} {l0 : Nat} {l1 : Nat}  {σ : Mem} (C : Cx p s m args meth c cX4_readOperand RX4 3 D tc b0) (hr : meth.sig.returnType = (some FieldType.boolean)) (hS : va_S (AA b0) s.heap H locs) (hW : Wd G D tc b0 σ H) (hl : hL b0 ls 3 [some (.inr (.inr l0)), some (.inr (.inr l1)), none]) (h : X_X4_readOperand_0 G Qx l0 l1  σ) : W p l e rm_X4_readOperand s m args below meth c H locs 0 0 (MQ below (va_Qi Qx (fun u t => Pw G D tc b0 u t) (AA b0)) args s 0 0 (AA b0)) (F0 m 0 ls []) := by
  have hx := C.1
  have hb := C.2.1
  unfold X_X4_readOperand_0 at h
  refine x_aload_n C hl dX4_readOperand_0 rfl ?_
  have t1 := h.1
  replace h := h.2
  refine x_get C hW (t := 4) (k := 0) t1 kl_4 (by decide) fl_X4_15 (v := rv b0 (mR σ l0 0)) rfl dX4_readOperand_1 ?_
  have t2 := h.1
  replace h := h.2
  refine y_i (x_run (As := []) C hW hS (T_X8_isName l (mR σ l0 0) σ _ h) t2 kl_8 (CW.of yv_X8_isName ml_X4_27) ⟨rfl, rfl, ⟨by decide, by decide⟩, by decide, by decide⟩ rfl hl.1 rfl (by decide) dX4_readOperand_4) hS (fun w4 s3 H locs h hW hS => ?_)
  refine lv_if_eq hx hb dX4_readOperand_7 (tgt := 57) rfl (fun hc => ?_) (fun hc => ?_)
  · replace h := h.1 hc
    refine x_aload_n C hl dX4_readOperand_57 rfl ?_
    refine x_get C hW (t := 4) (k := 0) t1 kl_4 (by decide) fl_X4_15 (v := rv b0 (mR s3 l0 0)) rfl dX4_readOperand_58 ?_
    refine lv_ldc2 (own := RX4) (v := (45 : Int64)) hx hb C.2.2.2.1 (C.2.2.2.2.1 _ (gc6 168 rfl rfl)) dX4_readOperand_61 ?_
    have t5 := h.1
    replace h := h.2
    refine y_i (x_run (As := [.long (45 : Int64)]) C hW hS (T_X8_takes l (mR s3 l0 0) (45 : Int64) s3 _ h) t5 kl_8 (CW.of yv_X8_takes ml_X4_111) ⟨rfl, rfl, ⟨by decide, by decide⟩, by decide, by decide⟩ rfl hl.1 rfl (by decide) dX4_readOperand_64) hS (fun w7 s6 H locs h hW hS => ?_)
    refine x_istore_n C hl dX4_readOperand_67 (by decide) rfl (fun ls hl => ?_)
    refine x_aload_n C hl dX4_readOperand_68 rfl ?_
    refine x_get C hW (t := 4) (k := 0) t1 kl_4 (by decide) fl_X4_15 (v := rv b0 (mR s6 l0 0)) rfl dX4_readOperand_69 ?_
    have t8 := h.1
    replace h := h.2
    refine y_i (x_run (As := []) C hW hS (T_X8_isNumber l (mR s6 l0 0) s6 _ h) t8 kl_8 (CW.of yv_X8_isNumber ml_X4_182) ⟨rfl, rfl, ⟨by decide, by decide⟩, by decide, by decide⟩ rfl hl.1 rfl (by decide) dX4_readOperand_72) hS (fun w10 s9 H locs h hW hS => ?_)
    refine lv_if_ne hx hb dX4_readOperand_75 (tgt := 86) rfl (fun hc => ?_) (fun hc => ?_)
    · replace h := h.2 hc
      refine x_aload_n C hl dX4_readOperand_86 rfl ?_
      refine x_get C hW (t := 4) (k := 1) t1 kl_4 (by decide) fl_X4_19 (v := rv b0 (mR s9 l0 1)) rfl dX4_readOperand_87 ?_
      refine x_iload_n C hl dX4_readOperand_90 rfl ?_
      refine lv_if_eq hx hb dX4_readOperand_91 (tgt := 105) rfl (fun hc => ?_) (fun hc => ?_)
      · replace h := h.1 hc
        refine x_aload_n C hl dX4_readOperand_105 rfl ?_
        refine x_get C hW (t := 4) (k := 0) t1 kl_4 (by decide) fl_X4_15 (v := rv b0 (mR s9 l0 0)) rfl dX4_readOperand_106 ?_
        have t11 := h.1
        replace h := h.2
        refine y_i (x_run (As := []) C hW hS (T_X8_number l (mR s9 l0 0) s9 _ h) t11 kl_8 (CW.of yv_X8_number ml_X4_185) ⟨rfl, rfl, ⟨by decide, by decide⟩, by decide, by decide⟩ rfl hl.1 rfl (by simp [rv_cat, cat_i, cat_l]) dX4_readOperand_109) hS (fun w13 s12 H locs h hW hS => ?_)
        exact t_X4_readOperand_112 C hr hS hW (hl.keep [true, false, false] rfl) h
      · replace h := h.2 hc
        refine x_aload_n C hl dX4_readOperand_94 rfl ?_
        refine x_get C hW (t := 4) (k := 0) t1 kl_4 (by decide) fl_X4_15 (v := rv b0 (mR s9 l0 0)) rfl dX4_readOperand_95 ?_
        have t14 := h.1
        replace h := h.2
        refine y_i (x_run (As := []) C hW hS (T_X8_number l (mR s9 l0 0) s9 _ h) t14 kl_8 (CW.of yv_X8_number ml_X4_185) ⟨rfl, rfl, ⟨by decide, by decide⟩, by decide, by decide⟩ rfl hl.1 rfl (by simp [rv_cat, cat_i, cat_l]) dX4_readOperand_98) hS (fun w16 s15 H locs h hW hS => ?_)
        refine lv_ineg hx hb dX4_readOperand_101 ?_
        refine lv_goto hx hb dX4_readOperand_102 (tgt := 112) rfl ?_
        exact t_X4_readOperand_112 C hr hS hW (hl.keep [true, false, false] rfl) h
    · replace h := h.1 hc
      refine x_aload_n C hl dX4_readOperand_78 rfl ?_
      refine x_get C hW (t := 4) (k := 0) t1 kl_4 (by decide) fl_X4_15 (v := rv b0 (mR s9 l0 0)) rfl dX4_readOperand_79 ?_
      have t17 := h.1
      replace h := h.2
      refine y_i (x_run (As := []) C hW hS (T_X8_misplaced l (mR s9 l0 0) s9 _ h) t17 kl_8 (CW.of yv_X8_misplaced ml_X4_33) ⟨rfl, rfl, ⟨by decide, by decide⟩, by decide, by decide⟩ rfl hl.1 rfl (by decide) dX4_readOperand_82) hS (fun w19 s18 H locs h hW hS => ?_)
      exact r_z C hr hW hS h.1 h.2 dX4_readOperand_85
  · replace h := h.2 hc
    refine x_aload_n C hl dX4_readOperand_10 rfl ?_
    refine x_get C hW (t := 4) (k := 2) t1 kl_4 (by decide) fl_X4_23 (v := rv b0 (mR s3 l0 2)) rfl dX4_readOperand_11 ?_
    refine x_aload_n C hl dX4_readOperand_14 rfl ?_
    refine x_aload_n C hl dX4_readOperand_15 rfl ?_
    refine x_get C hW (t := 4) (k := 0) t1 kl_4 (by decide) fl_X4_15 (v := rv b0 (mR s3 l0 0)) rfl dX4_readOperand_16 ?_
    have t20 := h.1
    replace h := h.2
    refine y_l (x_run (As := []) C hW hS (T_X8_word l (mR s3 l0 0) s3 _ h) t20 kl_8 (CW.of yv_X8_word ml_X4_36) ⟨rfl, rfl, ⟨by decide, by decide⟩, by decide, by decide⟩ rfl hl.1 rfl (by simp [rv_cat, cat_i, cat_l]) dX4_readOperand_19) hS (fun w22 s21 H locs h hW hS => ?_)
    have t23 := h.1
    replace h := h.2
    refine y_i (x_run (As := [rv b0 l1, .long w22]) C hW hS (T_X6_nameNumber l (mR s3 l0 2) l1 w22 s21 _ h) t23 kl_6 (CW.of yv_X6_nameNumber ml_X4_176) ⟨rfl, rfl, ⟨by decide, by decide⟩, by decide, by decide⟩ rfl hl.1 rfl (by decide) dX4_readOperand_22) hS (fun w25 s24 H locs h hW hS => ?_)
    refine x_istore_n C hl dX4_readOperand_25 (by decide) rfl (fun ls hl => ?_)
    refine x_iload_n C hl dX4_readOperand_26 rfl ?_
    refine lv_iconst (v := (-1 : Int32)) hx hb dX4_readOperand_27 (by decide) ?_
    refine lv_icmp_ne hx hb dX4_readOperand_28 (tgt := 40) rfl (fun hc => ?_) (fun hc => ?_)
    · replace h := h.2 hc
      refine x_aload_n C hl dX4_readOperand_40 rfl ?_
      refine x_get C hW (t := 4) (k := 1) t1 kl_4 (by decide) fl_X4_19 (v := rv b0 (mR s24 l0 1)) rfl dX4_readOperand_41 ?_
      refine x_iload_n C hl dX4_readOperand_44 rfl ?_
      have t26 := h.1
      replace h := h.2
      refine y_v (x_run (As := [.int w25]) C hW hS (T_X3_add l (mR s24 l0 1) w25 s24 _ h) t26 kl_3 (CW.of yv_X3_add ml_X4_116) ⟨rfl, rfl, ⟨by decide, by decide⟩, by decide, by decide⟩ rfl hl.1 rfl (by decide) dX4_readOperand_45) hS (fun s27 H locs h hW hS => ?_)
      refine x_aload_n C hl dX4_readOperand_48 rfl ?_
      refine x_get C hW (t := 4) (k := 0) t1 kl_4 (by decide) fl_X4_15 (v := rv b0 (mR s27 l0 0)) rfl dX4_readOperand_49 ?_
      have t28 := h.1
      replace h := h.2
      refine y_v (x_run (As := []) C hW hS (T_X8_pass l (mR s27 l0 0) s27 _ h) t28 kl_8 (CW.of yv_X8_pass ml_X4_56) ⟨rfl, rfl, ⟨by decide, by decide⟩, by decide, by decide⟩ rfl hl.1 rfl (by decide) dX4_readOperand_52) hS (fun s29 H locs h hW hS => ?_)
      refine lv_iconst (v := (1 : Int32)) hx hb dX4_readOperand_55 (by decide) ?_
      exact r_z C hr hW hS h.1 h.2 dX4_readOperand_56
    · replace h := h.1 hc
      refine x_aload_n C hl dX4_readOperand_31 rfl ?_
      refine x_get C hW (t := 4) (k := 0) t1 kl_4 (by decide) fl_X4_15 (v := rv b0 (mR s24 l0 0)) rfl dX4_readOperand_32 ?_
      refine lv_iconst (v := (3 : Int32)) hx hb dX4_readOperand_35 (by decide) ?_
      have t30 := h.1
      replace h := h.2
      refine y_i (x_run (As := [.int (3 : Int32)]) C hW hS (T_X8_refuse l (mR s24 l0 0) (3 : Int32) s24 _ h) t30 kl_8 (CW.of yv_X8_refuse ml_X4_46) ⟨rfl, rfl, ⟨by decide, by decide⟩, by decide, by decide⟩ rfl hl.1 rfl (by decide) dX4_readOperand_36) hS (fun w32 s31 H locs h hW hS => ?_)
      exact r_z C hr hW hS h.1 h.2 dX4_readOperand_39
theorem T_X4_readOperand (l : Launch) {G : Lay} {D : va_G} {tc : Nat → ClassId} {b0 : Nat} (l0 : Nat) (l1 : Nat) (σ : Mem) (Qx : Int32 → Mem → Prop) (h : X_X4_readOperand G Qx l0 l1 σ) : MI l yX4_readOperand cX4_readOperand 3 ((some FieldType.boolean)) rm_X4_readOperand G D tc b0 [rv b0 l0, rv b0 l1] σ Qx :=
  x_entry (y := yX4_readOperand) [.inr (.inr l0), .inr (.inr l1)] 1 (by decide) (Nat.le_of_ble_eq_true rfl) (fun p e s m args below meth c ls C hr hW hl => t_X4_readOperand_0 C hr va_S.rf hW (hl.keep [true, true, false] rfl) h)
/-! X4_readTerm -/
set_option maxRecDepth 20000 in
set_option maxHeartbeats 4000000 in
theorem t_X4_readTerm_34 {p : Program} {l : Launch} {e : Env} {s : State} {m : MethodId} {args : Array Value} {below : List Frame} {meth : Method} {c : Code} {H : Heap} {locs : List Loc} {D : va_G} {tc : Nat → ClassId} {b0 : Nat} {ls : Array Slot} {G : Lay} {Qx : Int32 → Mem → Prop}  {k0 : Int32} {σ : Mem} (C : Cx p s m args meth c cX4_readTerm RX4 2 D tc b0) (hr : meth.sig.returnType = (some FieldType.boolean)) (hS : va_S (AA b0) s.heap H locs) (hW : Wd G D tc b0 σ H) (hl : hL b0 ls 2 [none, none]) (h : X_X4_readTerm_34 G Qx  k0 σ) : W p l e rm_X4_readTerm s m args below meth c H locs 0 0 (MQ below (va_Qi Qx (fun u t => Pw G D tc b0 u t) (AA b0)) args s 0 0 (AA b0)) (F0 m 34 ls [.int k0]) := by
  have hx := C.1
  have hb := C.2.1
  unfold X_X4_readTerm_34 at h
  exact r_z C hr hW hS h.1 h.2 dX4_readTerm_34
set_option maxRecDepth 20000 in
set_option maxHeartbeats 4000000 in
theorem t_X4_readTerm_73 {p : Program} {l : Launch} {e : Env} {s : State} {m : MethodId} {args : Array Value} {below : List Frame} {meth : Method} {c : Code} {H : Heap} {locs : List Loc} {D : va_G} {tc : Nat → ClassId} {b0 : Nat} {ls : Array Slot} {G : Lay} {Qx : Int32 → Mem → Prop}  {k0 : Int32} {σ : Mem} (C : Cx p s m args meth c cX4_readTerm RX4 2 D tc b0) (hr : meth.sig.returnType = (some FieldType.boolean)) (hS : va_S (AA b0) s.heap H locs) (hW : Wd G D tc b0 σ H) (hl : hL b0 ls 2 [none, none]) (h : X_X4_readTerm_73 G Qx  k0 σ) : W p l e rm_X4_readTerm s m args below meth c H locs 0 0 (MQ below (va_Qi Qx (fun u t => Pw G D tc b0 u t) (AA b0)) args s 0 0 (AA b0)) (F0 m 73 ls [.int k0]) := by
  have hx := C.1
  have hb := C.2.1
  unfold X_X4_readTerm_73 at h
  exact r_z C hr hW hS h.1 h.2 dX4_readTerm_73
set_option maxRecDepth 20000 in
set_option maxHeartbeats 4000000 in
theorem t_X4_readTerm_72 {p : Program} {l : Launch} {e : Env} {s : State} {m : MethodId} {args : Array Value} {below : List Frame} {meth : Method} {c : Code} {H : Heap} {locs : List Loc} {D : va_G} {tc : Nat → ClassId} {b0 : Nat} {ls : Array Slot} {G : Lay} {Qx : Int32 → Mem → Prop}   {σ : Mem} (C : Cx p s m args meth c cX4_readTerm RX4 2 D tc b0) (hr : meth.sig.returnType = (some FieldType.boolean)) (hS : va_S (AA b0) s.heap H locs) (hW : Wd G D tc b0 σ H) (hl : hL b0 ls 2 [none, none]) (h : X_X4_readTerm_72 G Qx   σ) : W p l e rm_X4_readTerm s m args below meth c H locs 0 0 (MQ below (va_Qi Qx (fun u t => Pw G D tc b0 u t) (AA b0)) args s 0 0 (AA b0)) (F0 m 72 ls []) := by
  have hx := C.1
  have hb := C.2.1
  unfold X_X4_readTerm_72 at h
  refine lv_iconst (v := (0 : Int32)) hx hb dX4_readTerm_72 (by decide) ?_
  exact t_X4_readTerm_73 C hr hS hW (hl.keep [false, false] rfl) h
set_option maxRecDepth 20000 in
set_option maxHeartbeats 4000000 in
theorem t_X4_readTerm_0 {p : Program} {l : Launch} {e : Env} {s : State} {m : MethodId} {args : Array Value} {below : List Frame} {meth : Method} {c : Code} {H : Heap} {locs : List Loc} {D : va_G} {tc : Nat → ClassId} {b0 : Nat} {ls : Array Slot} {G : Lay} {Qx : Int32 → Mem → Prop} {l0 : Nat}  {σ : Mem} (C : Cx p s m args meth c cX4_readTerm RX4 2 D tc b0) (hr : meth.sig.returnType = (some FieldType.boolean)) (hS : va_S (AA b0) s.heap H locs) (hW : Wd G D tc b0 σ H) (hl : hL b0 ls 2 [some (.inr (.inr l0)), none]) (h : X_X4_readTerm_0 G Qx l0  σ) : W p l e rm_X4_readTerm s m args below meth c H locs 0 0 (MQ below (va_Qi Qx (fun u t => Pw G D tc b0 u t) (AA b0)) args s 0 0 (AA b0)) (F0 m 0 ls []) := by
  have hx := C.1
  have hb := C.2.1
  unfold X_X4_readTerm_0 at h
  refine x_aload_n C hl dX4_readTerm_0 rfl ?_
  have t1 := h.1
  replace h := h.2
  refine x_get C hW (t := 4) (k := 0) t1 kl_4 (by decide) fl_X4_15 (v := rv b0 (mR σ l0 0)) rfl dX4_readTerm_1 ?_
  refine lv_ldc2 (own := RX4) (v := (435627783289 : Int64)) hx hb C.2.2.2.1 (C.2.2.2.2.1 _ (gc6 131 rfl rfl)) dX4_readTerm_4 ?_
  have t2 := h.1
  replace h := h.2
  refine y_i (x_run (As := [.long (435627783289 : Int64)]) C hW hS (T_X8_takes l (mR σ l0 0) (435627783289 : Int64) σ _ h) t2 kl_8 (CW.of yv_X8_takes ml_X4_111) ⟨rfl, rfl, ⟨by decide, by decide⟩, by decide, by decide⟩ rfl hl.1 rfl (by decide) dX4_readTerm_7) hS (fun w4 s3 H locs h hW hS => ?_)
  refine lv_if_eq hx hb dX4_readTerm_10 (tgt := 35) rfl (fun hc => ?_) (fun hc => ?_)
  · replace h := h.1 hc
    refine x_aload_n C hl dX4_readTerm_35 rfl ?_
    refine x_get C hW (t := 4) (k := 1) t1 kl_4 (by decide) fl_X4_19 (v := rv b0 (mR s3 l0 1)) rfl dX4_readTerm_36 ?_
    refine lv_iconst (v := (4 : Int32)) hx hb dX4_readTerm_39 (by decide) ?_
    have t5 := h.1
    replace h := h.2
    refine y_v (x_run (As := [.int (4 : Int32)]) C hW hS (T_X3_add l (mR s3 l0 1) (4 : Int32) s3 _ h) t5 kl_3 (CW.of yv_X3_add ml_X4_116) ⟨rfl, rfl, ⟨by decide, by decide⟩, by decide, by decide⟩ rfl hl.1 rfl (by decide) dX4_readTerm_40) hS (fun s6 H locs h hW hS => ?_)
    refine x_aload_n C hl dX4_readTerm_43 rfl ?_
    refine lv_iconst (v := (0 : Int32)) hx hb dX4_readTerm_44 (by decide) ?_
    refine y_r (x_run (As := [.int (0 : Int32)]) C hW hS (T_X4_readPath l l0 (0 : Int32) s6 _ h) t1 kl_4 (CW.of yv_X4_readPath ml_X4_121) ⟨rfl, rfl, ⟨by decide, by decide⟩, by decide, by decide⟩ rfl hl.1 rfl (by decide) dX4_readTerm_45) hS (fun w8 s7 H locs h hW hS => ?_)
    refine x_astore_n C hl dX4_readTerm_48 (by decide) rfl (fun ls hl => ?_)
    refine x_aload_n C hl dX4_readTerm_49 rfl ?_
    refine x_ifnull C dX4_readTerm_50 (tgt := 72) rfl (fun hc => ?_) (fun hc => ?_)
    · replace h := h.1 hc
      exact t_X4_readTerm_72 C hr hS hW (hl.keep [false, false] rfl) h
    · replace h := h.2 hc
      refine x_aload_n C hl dX4_readTerm_53 rfl ?_
      refine y_i (x_run (As := []) C hW hS (T_X4_readSign l l0 s7 _ h) t1 kl_4 (CW.of yv_X4_readSign ml_X4_125) ⟨rfl, rfl, ⟨by decide, by decide⟩, by decide, by decide⟩ rfl hl.1 rfl (by decide) dX4_readTerm_54) hS (fun w10 s9 H locs h hW hS => ?_)
      refine lv_if_eq hx hb dX4_readTerm_57 (tgt := 72) rfl (fun hc => ?_) (fun hc => ?_)
      · replace h := h.1 hc
        exact t_X4_readTerm_72 C hr hS hW (hl.keep [false, false] rfl) h
      · replace h := h.2 hc
        refine x_aload_n C hl dX4_readTerm_60 rfl ?_
        refine x_aload_n C hl dX4_readTerm_61 rfl ?_
        refine y_i (x_run (As := [rv b0 w8]) C hW hS (T_X4_readOperand l l0 w8 s9 _ h) t1 kl_4 (CW.of yv_X4_readOperand ml_X4_128) ⟨rfl, rfl, ⟨by decide, by decide⟩, by decide, by decide⟩ rfl hl.1 rfl (by decide) dX4_readTerm_62) hS (fun w12 s11 H locs h hW hS => ?_)
        refine lv_if_eq hx hb dX4_readTerm_65 (tgt := 72) rfl (fun hc => ?_) (fun hc => ?_)
        · replace h := h.1 hc
          exact t_X4_readTerm_72 C hr hS hW (hl.keep [false, false] rfl) h
        · replace h := h.2 hc
          refine lv_iconst (v := (1 : Int32)) hx hb dX4_readTerm_68 (by decide) ?_
          refine lv_goto hx hb dX4_readTerm_69 (tgt := 73) rfl ?_
          exact t_X4_readTerm_73 C hr hS hW (hl.keep [false, false] rfl) h
  · replace h := h.2 hc
    refine x_aload_n C hl dX4_readTerm_13 rfl ?_
    refine x_get C hW (t := 4) (k := 1) t1 kl_4 (by decide) fl_X4_19 (v := rv b0 (mR s3 l0 1)) rfl dX4_readTerm_14 ?_
    refine lv_iconst (v := (3 : Int32)) hx hb dX4_readTerm_17 (by decide) ?_
    have t13 := h.1
    replace h := h.2
    refine y_v (x_run (As := [.int (3 : Int32)]) C hW hS (T_X3_add l (mR s3 l0 1) (3 : Int32) s3 _ h) t13 kl_3 (CW.of yv_X3_add ml_X4_116) ⟨rfl, rfl, ⟨by decide, by decide⟩, by decide, by decide⟩ rfl hl.1 rfl (by decide) dX4_readTerm_18) hS (fun s14 H locs h hW hS => ?_)
    refine x_aload_n C hl dX4_readTerm_21 rfl ?_
    refine lv_iconst (v := (1 : Int32)) hx hb dX4_readTerm_22 (by decide) ?_
    refine y_r (x_run (As := [.int (1 : Int32)]) C hW hS (T_X4_readPath l l0 (1 : Int32) s14 _ h) t1 kl_4 (CW.of yv_X4_readPath ml_X4_121) ⟨rfl, rfl, ⟨by decide, by decide⟩, by decide, by decide⟩ rfl hl.1 rfl (by decide) dX4_readTerm_23) hS (fun w16 s15 H locs h hW hS => ?_)
    refine x_ifnull C dX4_readTerm_26 (tgt := 33) rfl (fun hc => ?_) (fun hc => ?_)
    · replace h := h.1 hc
      refine lv_iconst (v := (0 : Int32)) hx hb dX4_readTerm_33 (by decide) ?_
      exact t_X4_readTerm_34 C hr hS hW (hl.keep [false, false] rfl) h
    · replace h := h.2 hc
      refine lv_iconst (v := (1 : Int32)) hx hb dX4_readTerm_29 (by decide) ?_
      refine lv_goto hx hb dX4_readTerm_30 (tgt := 34) rfl ?_
      exact t_X4_readTerm_34 C hr hS hW (hl.keep [false, false] rfl) h
theorem T_X4_readTerm (l : Launch) {G : Lay} {D : va_G} {tc : Nat → ClassId} {b0 : Nat} (l0 : Nat) (σ : Mem) (Qx : Int32 → Mem → Prop) (h : X_X4_readTerm G Qx l0 σ) : MI l yX4_readTerm cX4_readTerm 2 ((some FieldType.boolean)) rm_X4_readTerm G D tc b0 [rv b0 l0] σ Qx :=
  x_entry (y := yX4_readTerm) [.inr (.inr l0)] 1 (by decide) (Nat.le_of_ble_eq_true rfl) (fun p e s m args below meth c ls C hr hW hl => t_X4_readTerm_0 C hr va_S.rf hW (hl.keep [true, false] rfl) h)
/-! X4_joinDown -/
set_option maxRecDepth 20000 in
set_option maxHeartbeats 4000000 in
theorem t_X4_joinDown_54 {p : Program} {l : Launch} {e : Env} {s : State} {m : MethodId} {args : Array Value} {below : List Frame} {meth : Method} {c : Code} {H : Heap} {locs : List Loc} {D : va_G} {tc : Nat → ClassId} {b0 : Nat} {ls : Array Slot} {G : Lay} {Qx : Mem → Prop} {l0 : Nat} {l1 : Int32}  {K0 : Mem → Prop} {σ : Mem} (C : Cx p s m args meth c cX4_joinDown RX4 2 D tc b0) (hr : meth.sig.returnType = (none : Option FieldType)) (hK0 : ∀  (σ : Mem) (H : Heap) (locs : List Loc) (ls : Array Slot), va_S (AA b0) s.heap H locs → Wd G D tc b0 σ H → hL b0 ls 2 [some (.inr (.inr l0)), some (.inl l1)] → K0 (σ) → W p l e rm_X4_joinDown s m args below meth c H locs 0 0 (MQ below (va_Qv Qx (fun u t => Pw G D tc b0 u t) (AA b0)) args s 0 0 (AA b0)) (F0 m 0 ls [])) (hS : va_S (AA b0) s.heap H locs) (hW : Wd G D tc b0 σ H) (hl : hL b0 ls 2 [some (.inr (.inr l0)), some (.inl l1)]) (h : X_X4_joinDown_54 G Qx K0 l0 l1  σ) : W p l e rm_X4_joinDown s m args below meth c H locs 0 0 (MQ below (va_Qv Qx (fun u t => Pw G D tc b0 u t) (AA b0)) args s 0 0 (AA b0)) (F0 m 54 ls []) := by
  have hx := C.1
  have hb := C.2.1
  unfold X_X4_joinDown_54 at h
  refine x_aload_n C hl dX4_joinDown_54 rfl ?_
  have t1 := h.1
  replace h := h.2
  refine x_get C hW (t := 4) (k := 1) t1 kl_4 (by decide) fl_X4_19 (v := rv b0 (mR σ l0 1)) rfl dX4_joinDown_55 ?_
  refine x_aload_n C hl dX4_joinDown_58 rfl ?_
  refine x_get C hW (t := 4) (k := 3) t1 kl_4 (by decide) fl_X4_11 (v := rv b0 (mR σ l0 3)) rfl dX4_joinDown_59 ?_
  refine x_aload_n C hl dX4_joinDown_62 rfl ?_
  refine x_get C hW (t := 4) (k := 4) t1 kl_4 (by decide) fl_X4_71 (v := .int (mI σ l0 4)) rfl dX4_joinDown_63 ?_
  have t2 := h.1
  replace h := h.2
  have v3 := h.1
  replace h := h.2
  refine x_iald C hW t2 v3 dX4_joinDown_66 ?_
  have t4 := h.1
  replace h := h.2
  refine y_v (x_run (As := [.int (mI σ (mR σ l0 3) (mI σ l0 4).toNatClampNeg)]) C hW hS (T_X3_add l (mR σ l0 1) (mI σ (mR σ l0 3) (mI σ l0 4).toNatClampNeg) σ _ h) t4 kl_3 (CW.of yv_X3_add ml_X4_116) ⟨rfl, rfl, ⟨by decide, by decide⟩, by decide, by decide⟩ rfl hl.1 rfl (by decide) dX4_joinDown_67) hS (fun s5 H locs h hW hS => ?_)
  refine lv_goto hx hb dX4_joinDown_70 (tgt := 0) rfl ?_
  exact hK0 _ _ _ _ hS hW (hl.keep [true, true] rfl) h
set_option maxRecDepth 20000 in
set_option maxHeartbeats 4000000 in
theorem t_X4_joinDown_73 {p : Program} {l : Launch} {e : Env} {s : State} {m : MethodId} {args : Array Value} {below : List Frame} {meth : Method} {c : Code} {H : Heap} {locs : List Loc} {D : va_G} {tc : Nat → ClassId} {b0 : Nat} {ls : Array Slot} {G : Lay} {Qx : Mem → Prop}   {σ : Mem} (C : Cx p s m args meth c cX4_joinDown RX4 2 D tc b0) (hr : meth.sig.returnType = (none : Option FieldType)) (hS : va_S (AA b0) s.heap H locs) (hW : Wd G D tc b0 σ H) (hl : hL b0 ls 2 [none, none]) (h : X_X4_joinDown_73 G Qx   σ) : W p l e rm_X4_joinDown s m args below meth c H locs 0 0 (MQ below (va_Qv Qx (fun u t => Pw G D tc b0 u t) (AA b0)) args s 0 0 (AA b0)) (F0 m 73 ls []) := by
  have hx := C.1
  have hb := C.2.1
  unfold X_X4_joinDown_73 at h
  exact r_v C hr hW hS h dX4_joinDown_73
set_option maxRecDepth 20000 in
set_option maxHeartbeats 4000000 in
theorem t_X4_joinDown_0_n {p : Program} {l : Launch} {e : Env} {s : State} {m : MethodId} {args : Array Value} {below : List Frame} {meth : Method} {c : Code} {D : va_G} {tc : Nat → ClassId} {b0 : Nat} {G : Lay} {Qx : Mem → Prop} {l0 : Nat} {l1 : Int32} (C : Cx p s m args meth c cX4_joinDown RX4 2 D tc b0) (hr : meth.sig.returnType = (none : Option FieldType)) (n : Nat) : ∀  (σ : Mem) (H : Heap) (locs : List Loc) (ls : Array Slot), va_S (AA b0) s.heap H locs → Wd G D tc b0 σ H → hL b0 ls 2 [some (.inr (.inr l0)), some (.inl l1)] → Lp (X_X4_joinDown_0_s G Qx l0 l1) n (σ) → W p l e rm_X4_joinDown s m args below meth c H locs 0 0 (MQ below (va_Qv Qx (fun u t => Pw G D tc b0 u t) (AA b0)) args s 0 0 (AA b0)) (F0 m 0 ls []) := by
  have hx := C.1
  have hb := C.2.1
  induction n with
  | zero => intro  σ H locs ls hS hW hl h; exact False.elim h
  | succ n hK0 =>
    intro  σ H locs ls hS hW hl h
    replace h : X_X4_joinDown_0_s G Qx l0 l1 (Lp (X_X4_joinDown_0_s G Qx l0 l1) n) (σ) := h
    unfold X_X4_joinDown_0_s at h
    refine x_aload_n C hl dX4_joinDown_0 rfl ?_
    have t1 := h.1
    replace h := h.2
    refine x_get C hW (t := 4) (k := 4) t1 kl_4 (by decide) fl_X4_71 (v := .int (mI σ l0 4)) rfl dX4_joinDown_1 ?_
    refine lv_if_le hx hb dX4_joinDown_4 (tgt := 73) rfl (fun hc => ?_) (fun hc => ?_)
    · replace h := h.1 hc
      exact t_X4_joinDown_73 C hr hS hW (hl.keep [false, false] rfl) h
    · replace h := h.2 hc
      refine x_aload_n C hl dX4_joinDown_7 rfl ?_
      refine x_get C hW (t := 4) (k := 3) t1 kl_4 (by decide) fl_X4_11 (v := rv b0 (mR σ l0 3)) rfl dX4_joinDown_8 ?_
      refine x_aload_n C hl dX4_joinDown_11 rfl ?_
      refine x_get C hW (t := 4) (k := 4) t1 kl_4 (by decide) fl_X4_71 (v := .int (mI σ l0 4)) rfl dX4_joinDown_12 ?_
      refine lv_iconst (v := (1 : Int32)) hx hb dX4_joinDown_15 (by decide) ?_
      refine lv_isub hx hb dX4_joinDown_16 ?_
      have t2 := h.1
      replace h := h.2
      have v3 := h.1
      replace h := h.2
      refine x_iald C hW t2 v3 dX4_joinDown_17 ?_
      refine x_iload_n C hl dX4_joinDown_18 rfl ?_
      refine lv_icmp_gt hx hb dX4_joinDown_19 (tgt := 73) rfl (fun hc => ?_) (fun hc => ?_)
      · replace h := h.1 hc
        exact t_X4_joinDown_73 C hr hS hW (hl.keep [false, false] rfl) h
      · replace h := h.2 hc
        refine x_aload_n C hl dX4_joinDown_22 rfl ?_
        refine lv_dup hx hb dX4_joinDown_23 (rv_cat _ _) ?_
        refine x_get C hW (t := 4) (k := 4) t1 kl_4 (by decide) fl_X4_71 (v := .int (mI σ l0 4)) rfl dX4_joinDown_24 ?_
        refine lv_iconst (v := (1 : Int32)) hx hb dX4_joinDown_27 (by decide) ?_
        refine lv_isub hx hb dX4_joinDown_28 ?_
        refine x_putI C hW hS (t := 4) (k := 4) t1 kl_4 (by decide) fl_X4_71 rfl rfl rfl rfl dX4_joinDown_29 (fun H locs hW hS => ?_)
        obtain ⟨s4, e_s4⟩ : ∃ z : Mem, z = (sI σ l0 4 ((mI σ l0 4) - (1 : Int32))) := ⟨_, rfl⟩
        replace h := h s4 e_s4
        replace hW : Wd G D tc b0 s4 H := by rw [e_s4]; exact hW
        refine x_aload_n C hl dX4_joinDown_32 rfl ?_
        refine x_get C hW (t := 4) (k := 3) t1 kl_4 (by decide) fl_X4_11 (v := rv b0 (mR s4 l0 3)) rfl dX4_joinDown_33 ?_
        refine x_aload_n C hl dX4_joinDown_36 rfl ?_
        refine x_get C hW (t := 4) (k := 4) t1 kl_4 (by decide) fl_X4_71 (v := .int (mI s4 l0 4)) rfl dX4_joinDown_37 ?_
        have t5 := h.1
        replace h := h.2
        have v6 := h.1
        replace h := h.2
        refine x_iald C hW t5 v6 dX4_joinDown_40 ?_
        refine lv_if_ne hx hb dX4_joinDown_41 (tgt := 54) rfl (fun hc => ?_) (fun hc => ?_)
        · replace h := h.2 hc
          exact t_X4_joinDown_54 C hr hK0 hS hW (hl.keep [true, true] rfl) h
        · replace h := h.1 hc
          refine x_aload_n C hl dX4_joinDown_44 rfl ?_
          refine lv_dup hx hb dX4_joinDown_45 (rv_cat _ _) ?_
          refine x_get C hW (t := 4) (k := 5) t1 kl_4 (by decide) fl_X4_75 (v := .int (mI s4 l0 5)) rfl dX4_joinDown_46 ?_
          refine lv_iconst (v := (1 : Int32)) hx hb dX4_joinDown_49 (by decide) ?_
          refine lv_isub hx hb dX4_joinDown_50 ?_
          refine x_putI C hW hS (t := 4) (k := 5) t1 kl_4 (by decide) fl_X4_75 rfl rfl rfl rfl dX4_joinDown_51 (fun H locs hW hS => ?_)
          obtain ⟨s7, e_s7⟩ : ∃ z : Mem, z = (sI s4 l0 5 ((mI s4 l0 5) - (1 : Int32))) := ⟨_, rfl⟩
          replace h := h s7 e_s7
          replace hW : Wd G D tc b0 s7 H := by rw [e_s7]; exact hW
          exact t_X4_joinDown_54 C hr hK0 hS hW (hl.keep [true, true] rfl) h
set_option maxRecDepth 20000 in
set_option maxHeartbeats 4000000 in
theorem t_X4_joinDown_0 {p : Program} {l : Launch} {e : Env} {s : State} {m : MethodId} {args : Array Value} {below : List Frame} {meth : Method} {c : Code} {H : Heap} {locs : List Loc} {D : va_G} {tc : Nat → ClassId} {b0 : Nat} {ls : Array Slot} {G : Lay} {Qx : Mem → Prop} {l0 : Nat} {l1 : Int32}  {σ : Mem} (C : Cx p s m args meth c cX4_joinDown RX4 2 D tc b0) (hr : meth.sig.returnType = (none : Option FieldType)) (hS : va_S (AA b0) s.heap H locs) (hW : Wd G D tc b0 σ H) (hl : hL b0 ls 2 [some (.inr (.inr l0)), some (.inl l1)]) (h : X_X4_joinDown_0 G Qx l0 l1 σ) : W p l e rm_X4_joinDown s m args below meth c H locs 0 0 (MQ below (va_Qv Qx (fun u t => Pw G D tc b0 u t) (AA b0)) args s 0 0 (AA b0)) (F0 m 0 ls []) := by
  obtain ⟨n, h⟩ := h
  exact t_X4_joinDown_0_n C hr n  σ H locs ls hS hW hl h
theorem T_X4_joinDown (l : Launch) {G : Lay} {D : va_G} {tc : Nat → ClassId} {b0 : Nat} (l0 : Nat) (l1 : Int32) (σ : Mem) (Qx : Mem → Prop) (h : X_X4_joinDown G Qx l0 l1 σ) : MV l yX4_joinDown cX4_joinDown 2 ((none : Option FieldType)) rm_X4_joinDown G D tc b0 [rv b0 l0, .int l1] σ Qx :=
  x_entry (y := yX4_joinDown) [.inr (.inr l0), .inl l1] 0 (by decide) (Nat.le_of_ble_eq_true rfl) (fun p e s m args below meth c ls C hr hW hl => t_X4_joinDown_0 C hr va_S.rf hW (hl.keep [true, true] rfl) h)
/-! X4_readClosings -/
set_option maxRecDepth 20000 in
set_option maxHeartbeats 4000000 in
theorem t_X4_readClosings_75 {p : Program} {l : Launch} {e : Env} {s : State} {m : MethodId} {args : Array Value} {below : List Frame} {meth : Method} {c : Code} {H : Heap} {locs : List Loc} {D : va_G} {tc : Nat → ClassId} {b0 : Nat} {ls : Array Slot} {G : Lay} {Qx : Int32 → Mem → Prop}   {σ : Mem} (C : Cx p s m args meth c cX4_readClosings RX4 2 D tc b0) (hr : meth.sig.returnType = (some FieldType.boolean)) (hS : va_S (AA b0) s.heap H locs) (hW : Wd G D tc b0 σ H) (hl : hL b0 ls 2 [none, none]) (h : X_X4_readClosings_75 G Qx   σ) : W p l e rm_X4_readClosings s m args below meth c H locs 0 0 (MQ below (va_Qi Qx (fun u t => Pw G D tc b0 u t) (AA b0)) args s 0 0 (AA b0)) (F0 m 75 ls []) := by
  have hx := C.1
  have hb := C.2.1
  unfold X_X4_readClosings_75 at h
  refine lv_iconst (v := (1 : Int32)) hx hb dX4_readClosings_75 (by decide) ?_
  exact r_z C hr hW hS h.1 h.2 dX4_readClosings_76
set_option maxRecDepth 20000 in
set_option maxHeartbeats 4000000 in
theorem t_X4_readClosings_2_n {p : Program} {l : Launch} {e : Env} {s : State} {m : MethodId} {args : Array Value} {below : List Frame} {meth : Method} {c : Code} {D : va_G} {tc : Nat → ClassId} {b0 : Nat} {G : Lay} {Qx : Int32 → Mem → Prop} {l0 : Nat} (C : Cx p s m args meth c cX4_readClosings RX4 2 D tc b0) (hr : meth.sig.returnType = (some FieldType.boolean)) (n : Nat) : ∀ (l1 : Int32) (σ : Mem) (H : Heap) (locs : List Loc) (ls : Array Slot), va_S (AA b0) s.heap H locs → Wd G D tc b0 σ H → hL b0 ls 2 [some (.inr (.inr l0)), some (.inl l1)] → Lp (X_X4_readClosings_2_s G Qx l0) n (l1, σ) → W p l e rm_X4_readClosings s m args below meth c H locs 0 0 (MQ below (va_Qi Qx (fun u t => Pw G D tc b0 u t) (AA b0)) args s 0 0 (AA b0)) (F0 m 2 ls []) := by
  have hx := C.1
  have hb := C.2.1
  induction n with
  | zero => intro l1 σ H locs ls hS hW hl h; exact False.elim h
  | succ n hK2 =>
    intro l1 σ H locs ls hS hW hl h
    replace h : X_X4_readClosings_2_s G Qx l0 (Lp (X_X4_readClosings_2_s G Qx l0) n) (l1, σ) := h
    unfold X_X4_readClosings_2_s at h
    refine x_iload_n C hl dX4_readClosings_2 rfl ?_
    refine lv_sipush (v := (3000 : Int32)) hx hb dX4_readClosings_3 (by decide) ?_
    refine lv_icmp_gt hx hb dX4_readClosings_6 (tgt := 75) rfl (fun hc => ?_) (fun hc => ?_)
    · replace h := h.1 hc
      exact t_X4_readClosings_75 C hr hS hW (hl.keep [false, false] rfl) h
    · replace h := h.2 hc
      refine x_aload_n C hl dX4_readClosings_9 rfl ?_
      have t1 := h.1
      replace h := h.2
      refine x_get C hW (t := 4) (k := 0) t1 kl_4 (by decide) fl_X4_15 (v := rv b0 (mR σ l0 0)) rfl dX4_readClosings_10 ?_
      refine lv_ldc2 (own := RX4) (v := (41 : Int64)) hx hb C.2.2.2.1 (C.2.2.2.2.1 _ (gc6 175 rfl rfl)) dX4_readClosings_13 ?_
      have t2 := h.1
      replace h := h.2
      refine y_i (x_run (As := [.long (41 : Int64)]) C hW hS (T_X8_isAt l (mR σ l0 0) (41 : Int64) σ _ h) t2 kl_8 (CW.of yv_X8_isAt ml_X4_102) ⟨rfl, rfl, ⟨by decide, by decide⟩, by decide, by decide⟩ rfl hl.1 rfl (by decide) dX4_readClosings_16) hS (fun w4 s3 H locs h hW hS => ?_)
      refine lv_if_eq hx hb dX4_readClosings_19 (tgt := 75) rfl (fun hc => ?_) (fun hc => ?_)
      · replace h := h.1 hc
        exact t_X4_readClosings_75 C hr hS hW (hl.keep [false, false] rfl) h
      · replace h := h.2 hc
        refine x_aload_n C hl dX4_readClosings_22 rfl ?_
        refine lv_iconst (v := (2 : Int32)) hx hb dX4_readClosings_23 (by decide) ?_
        refine y_v (x_run (As := [.int (2 : Int32)]) C hW hS (T_X4_joinDown l l0 (2 : Int32) s3 _ h) t1 kl_4 (CW.of yv_X4_joinDown ml_X4_87) ⟨rfl, rfl, ⟨by decide, by decide⟩, by decide, by decide⟩ rfl hl.1 rfl (by decide) dX4_readClosings_24) hS (fun s5 H locs h hW hS => ?_)
        refine x_aload_n C hl dX4_readClosings_27 rfl ?_
        refine x_get C hW (t := 4) (k := 4) t1 kl_4 (by decide) fl_X4_71 (v := .int (mI s5 l0 4)) rfl dX4_readClosings_28 ?_
        refine lv_if_ne hx hb dX4_readClosings_31 (tgt := 42) rfl (fun hc => ?_) (fun hc => ?_)
        · replace h := h.2 hc
          refine x_aload_n C hl dX4_readClosings_42 rfl ?_
          refine lv_dup hx hb dX4_readClosings_43 (rv_cat _ _) ?_
          refine x_get C hW (t := 4) (k := 4) t1 kl_4 (by decide) fl_X4_71 (v := .int (mI s5 l0 4)) rfl dX4_readClosings_44 ?_
          refine lv_iconst (v := (1 : Int32)) hx hb dX4_readClosings_47 (by decide) ?_
          refine lv_isub hx hb dX4_readClosings_48 ?_
          refine x_putI C hW hS (t := 4) (k := 4) t1 kl_4 (by decide) fl_X4_71 rfl rfl rfl rfl dX4_readClosings_49 (fun H locs hW hS => ?_)
          obtain ⟨s6, e_s6⟩ : ∃ z : Mem, z = (sI s5 l0 4 ((mI s5 l0 4) - (1 : Int32))) := ⟨_, rfl⟩
          replace h := h s6 e_s6
          replace hW : Wd G D tc b0 s6 H := by rw [e_s6]; exact hW
          refine x_aload_n C hl dX4_readClosings_52 rfl ?_
          refine lv_dup hx hb dX4_readClosings_53 (rv_cat _ _) ?_
          refine x_get C hW (t := 4) (k := 5) t1 kl_4 (by decide) fl_X4_75 (v := .int (mI s6 l0 5)) rfl dX4_readClosings_54 ?_
          refine lv_iconst (v := (1 : Int32)) hx hb dX4_readClosings_57 (by decide) ?_
          refine lv_isub hx hb dX4_readClosings_58 ?_
          refine x_putI C hW hS (t := 4) (k := 5) t1 kl_4 (by decide) fl_X4_75 rfl rfl rfl rfl dX4_readClosings_59 (fun H locs hW hS => ?_)
          obtain ⟨s7, e_s7⟩ : ∃ z : Mem, z = (sI s6 l0 5 ((mI s6 l0 5) - (1 : Int32))) := ⟨_, rfl⟩
          replace h := h s7 e_s7
          replace hW : Wd G D tc b0 s7 H := by rw [e_s7]; exact hW
          refine x_aload_n C hl dX4_readClosings_62 rfl ?_
          refine x_get C hW (t := 4) (k := 0) t1 kl_4 (by decide) fl_X4_15 (v := rv b0 (mR s7 l0 0)) rfl dX4_readClosings_63 ?_
          have t8 := h.1
          replace h := h.2
          refine y_v (x_run (As := []) C hW hS (T_X8_pass l (mR s7 l0 0) s7 _ h) t8 kl_8 (CW.of yv_X8_pass ml_X4_56) ⟨rfl, rfl, ⟨by decide, by decide⟩, by decide, by decide⟩ rfl hl.1 rfl (by decide) dX4_readClosings_66) hS (fun s9 H locs h hW hS => ?_)
          refine x_iinc C hl dX4_readClosings_69 rfl (v := (1 : Int32)) (by decide) (by decide) rfl (fun ls hl => ?_)
          refine lv_goto hx hb dX4_readClosings_72 (tgt := 2) rfl ?_
          exact hK2 _ _ _ _ _ hS hW (hl.keep [true, true] rfl) h
        · replace h := h.1 hc
          refine x_aload_n C hl dX4_readClosings_34 rfl ?_
          refine x_get C hW (t := 4) (k := 0) t1 kl_4 (by decide) fl_X4_15 (v := rv b0 (mR s5 l0 0)) rfl dX4_readClosings_35 ?_
          have t10 := h.1
          replace h := h.2
          refine y_i (x_run (As := []) C hW hS (T_X8_misplaced l (mR s5 l0 0) s5 _ h) t10 kl_8 (CW.of yv_X8_misplaced ml_X4_33) ⟨rfl, rfl, ⟨by decide, by decide⟩, by decide, by decide⟩ rfl hl.1 rfl (by decide) dX4_readClosings_38) hS (fun w12 s11 H locs h hW hS => ?_)
          exact r_z C hr hW hS h.1 h.2 dX4_readClosings_41
set_option maxRecDepth 20000 in
set_option maxHeartbeats 4000000 in
theorem t_X4_readClosings_2 {p : Program} {l : Launch} {e : Env} {s : State} {m : MethodId} {args : Array Value} {below : List Frame} {meth : Method} {c : Code} {H : Heap} {locs : List Loc} {D : va_G} {tc : Nat → ClassId} {b0 : Nat} {ls : Array Slot} {G : Lay} {Qx : Int32 → Mem → Prop} {l0 : Nat} {l1 : Int32}  {σ : Mem} (C : Cx p s m args meth c cX4_readClosings RX4 2 D tc b0) (hr : meth.sig.returnType = (some FieldType.boolean)) (hS : va_S (AA b0) s.heap H locs) (hW : Wd G D tc b0 σ H) (hl : hL b0 ls 2 [some (.inr (.inr l0)), some (.inl l1)]) (h : X_X4_readClosings_2 G Qx l0 l1 σ) : W p l e rm_X4_readClosings s m args below meth c H locs 0 0 (MQ below (va_Qi Qx (fun u t => Pw G D tc b0 u t) (AA b0)) args s 0 0 (AA b0)) (F0 m 2 ls []) := by
  obtain ⟨n, h⟩ := h
  exact t_X4_readClosings_2_n C hr n l1 σ H locs ls hS hW hl h
set_option maxRecDepth 20000 in
set_option maxHeartbeats 4000000 in
theorem t_X4_readClosings_0 {p : Program} {l : Launch} {e : Env} {s : State} {m : MethodId} {args : Array Value} {below : List Frame} {meth : Method} {c : Code} {H : Heap} {locs : List Loc} {D : va_G} {tc : Nat → ClassId} {b0 : Nat} {ls : Array Slot} {G : Lay} {Qx : Int32 → Mem → Prop} {l0 : Nat}  {σ : Mem} (C : Cx p s m args meth c cX4_readClosings RX4 2 D tc b0) (hr : meth.sig.returnType = (some FieldType.boolean)) (hS : va_S (AA b0) s.heap H locs) (hW : Wd G D tc b0 σ H) (hl : hL b0 ls 2 [some (.inr (.inr l0)), none]) (h : X_X4_readClosings_0 G Qx l0  σ) : W p l e rm_X4_readClosings s m args below meth c H locs 0 0 (MQ below (va_Qi Qx (fun u t => Pw G D tc b0 u t) (AA b0)) args s 0 0 (AA b0)) (F0 m 0 ls []) := by
  have hx := C.1
  have hb := C.2.1
  unfold X_X4_readClosings_0 at h
  refine lv_iconst (v := (0 : Int32)) hx hb dX4_readClosings_0 (by decide) ?_
  refine x_istore_n C hl dX4_readClosings_1 (by decide) rfl (fun ls hl => ?_)
  exact t_X4_readClosings_2 C hr hS hW (hl.keep [true, true] rfl) h
theorem T_X4_readClosings (l : Launch) {G : Lay} {D : va_G} {tc : Nat → ClassId} {b0 : Nat} (l0 : Nat) (σ : Mem) (Qx : Int32 → Mem → Prop) (h : X_X4_readClosings G Qx l0 σ) : MI l yX4_readClosings cX4_readClosings 2 ((some FieldType.boolean)) rm_X4_readClosings G D tc b0 [rv b0 l0] σ Qx :=
  x_entry (y := yX4_readClosings) [.inr (.inr l0)] 1 (by decide) (Nat.le_of_ble_eq_true rfl) (fun p e s m args below meth c ls C hr hW hl => t_X4_readClosings_0 C hr va_S.rf hW (hl.keep [true, false] rfl) h)
