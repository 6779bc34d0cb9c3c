/-! X6_clear -/
set_option maxRecDepth 20000 in
set_option maxHeartbeats 4000000 in
theorem t_X6_clear_0 {p : Program} {l : Launch} {e : Env} {s : State} {m : MethodId} {args : Array Value} {below : List Frame} {meth : Method} {c : Code} {H : Heap} {locs : List Loc} {D : va_G} {tc : Nat → ClassId} {b0 : Nat} {ls : Array Slot} {G : Lay} {Qx : Mem → Prop} {l0 : Nat}  {σ : Mem} (C : Cx p s m args meth c cX6_clear RX6 1 D tc b0) (hr : meth.sig.returnType = (none : Option FieldType)) (hS : va_S (AA b0) s.heap H locs) (hW : Wd G D tc b0 σ H) (hl : hL b0 ls 1 [some (.inr (.inr l0))]) (h : X_X6_clear_0 G Qx l0  σ) : W p l e rm_X6_clear s m args below meth c H locs 0 0 (MQ below (va_Qv Qx (fun u t => Pw G D tc b0 u t) (AA b0)) args s 0 0 (AA b0)) (F0 m 0 ls []) := by
  have hx := C.1
  have hb := C.2.1
  unfold X_X6_clear_0 at h
  refine x_aload_n C hl dX6_clear_0 rfl ?_
  refine lv_iconst (v := (0 : Int32)) hx hb dX6_clear_1 (by decide) ?_
  have t1 := h.1
  replace h := h.2
  refine x_putI C hW hS (t := 6) (k := 0) t1 kl_6 (by decide) fl_X6_29 rfl rfl rfl rfl dX6_clear_2 (fun H locs hW hS => ?_)
  obtain ⟨s2, e_s2⟩ : ∃ z : Mem, z = (sI σ l0 0 (0 : Int32)) := ⟨_, rfl⟩
  replace h := h s2 e_s2
  replace hW : Wd G D tc b0 s2 H := by rw [e_s2]; exact hW
  refine x_aload_n C hl dX6_clear_5 rfl ?_
  refine lv_iconst (v := (0 : Int32)) hx hb dX6_clear_6 (by decide) ?_
  refine x_putI C hW hS (t := 6) (k := 2) t1 kl_6 (by decide) fl_X6_33 rfl rfl rfl rfl dX6_clear_7 (fun H locs hW hS => ?_)
  obtain ⟨s3, e_s3⟩ : ∃ z : Mem, z = (sI s2 l0 2 (0 : Int32)) := ⟨_, rfl⟩
  replace h := h s3 e_s3
  replace hW : Wd G D tc b0 s3 H := by rw [e_s3]; exact hW
  refine x_aload_n C hl dX6_clear_10 rfl ?_
  refine lv_iconst (v := (0 : Int32)) hx hb dX6_clear_11 (by decide) ?_
  refine x_putI C hW hS (t := 6) (k := 4) t1 kl_6 (by decide) fl_X6_36 rfl rfl rfl rfl dX6_clear_12 (fun H locs hW hS => ?_)
  obtain ⟨s4, e_s4⟩ : ∃ z : Mem, z = (sI s3 l0 4 (0 : Int32)) := ⟨_, rfl⟩
  replace h := h s4 e_s4
  replace hW : Wd G D tc b0 s4 H := by rw [e_s4]; exact hW
  exact r_v C hr hW hS h dX6_clear_15
theorem T_X6_clear (l : Launch) {G : Lay} {D : va_G} {tc : Nat → ClassId} {b0 : Nat} (l0 : Nat) (σ : Mem) (Qx : Mem → Prop) (h : X_X6_clear G Qx l0 σ) : MV l yX6_clear cX6_clear 1 ((none : Option FieldType)) rm_X6_clear G D tc b0 [rv b0 l0] σ Qx :=
  x_entry (y := yX6_clear) [.inr (.inr l0)] 0 (by decide) (Nat.le_of_ble_eq_true rfl) (fun p e s m args below meth c ls C hr hW hl => t_X6_clear_0 C hr va_S.rf hW (hl.keep [true] rfl) h)
/-! X8_isEnd -/
set_option maxRecDepth 20000 in
set_option maxHeartbeats 4000000 in
theorem t_X8_isEnd_17 {p : Program} {l : Launch} {e : Env} {s : State} {m : MethodId} {args : Array Value} {below : List Frame} {meth : Method} {c : Code} {H : Heap} {locs : List Loc} {D : va_G} {tc : Nat → ClassId} {b0 : Nat} {ls : Array Slot} {G : Lay} {Qx : Int32 → Mem → Prop}  {k0 : Int32} {σ : Mem} (C : Cx p s m args meth c cX8_isEnd RX8 1 D tc b0) (hr : meth.sig.returnType = (some FieldType.boolean)) (hS : va_S (AA b0) s.heap H locs) (hW : Wd G D tc b0 σ H) (hl : hL b0 ls 1 [none]) (h : X_X8_isEnd_17 G Qx  k0 σ) : W p l e rm_X8_isEnd s m args below meth c H locs 0 0 (MQ below (va_Qi Qx (fun u t => Pw G D tc b0 u t) (AA b0)) args s 0 0 (AA b0)) (F0 m 17 ls [.int k0]) := by
  have hx := C.1
  have hb := C.2.1
  unfold X_X8_isEnd_17 at h
  exact r_z C hr hW hS h.1 h.2 dX8_isEnd_17
set_option maxRecDepth 20000 in
set_option maxHeartbeats 4000000 in
theorem t_X8_isEnd_0 {p : Program} {l : Launch} {e : Env} {s : State} {m : MethodId} {args : Array Value} {below : List Frame} {meth : Method} {c : Code} {H : Heap} {locs : List Loc} {D : va_G} {tc : Nat → ClassId} {b0 : Nat} {ls : Array Slot} {G : Lay} {Qx : Int32 → Mem → Prop} {l0 : Nat}  {σ : Mem} (C : Cx p s m args meth c cX8_isEnd RX8 1 D tc b0) (hr : meth.sig.returnType = (some FieldType.boolean)) (hS : va_S (AA b0) s.heap H locs) (hW : Wd G D tc b0 σ H) (hl : hL b0 ls 1 [some (.inr (.inr l0))]) (h : X_X8_isEnd_0 G Qx l0  σ) : W p l e rm_X8_isEnd s m args below meth c H locs 0 0 (MQ below (va_Qi Qx (fun u t => Pw G D tc b0 u t) (AA b0)) args s 0 0 (AA b0)) (F0 m 0 ls []) := by
  have hx := C.1
  have hb := C.2.1
  unfold X_X8_isEnd_0 at h
  refine x_aload_n C hl dX8_isEnd_0 rfl ?_
  have t1 := h.1
  replace h := h.2
  refine x_get C hW (t := 8) (k := 0) t1 kl_8 (by decide) fl_X8_9 (v := rv b0 (mR σ l0 0)) rfl dX8_isEnd_1 ?_
  refine x_aload_n C hl dX8_isEnd_4 rfl ?_
  refine x_get C hW (t := 8) (k := 4) t1 kl_8 (by decide) fl_X8_29 (v := .int (mI σ l0 4)) rfl dX8_isEnd_5 ?_
  have t2 := h.1
  replace h := h.2
  have v3 := h.1
  replace h := h.2
  refine x_iald C hW t2 v3 dX8_isEnd_8 ?_
  refine lv_if_ne hx hb dX8_isEnd_9 (tgt := 16) rfl (fun hc => ?_) (fun hc => ?_)
  · replace h := h.2 hc
    refine lv_iconst (v := (0 : Int32)) hx hb dX8_isEnd_16 (by decide) ?_
    exact t_X8_isEnd_17 C hr hS hW (hl.keep [false] rfl) h
  · replace h := h.1 hc
    refine lv_iconst (v := (1 : Int32)) hx hb dX8_isEnd_12 (by decide) ?_
    refine lv_goto hx hb dX8_isEnd_13 (tgt := 17) rfl ?_
    exact t_X8_isEnd_17 C hr hS hW (hl.keep [false] rfl) h
theorem T_X8_isEnd (l : Launch) {G : Lay} {D : va_G} {tc : Nat → ClassId} {b0 : Nat} (l0 : Nat) (σ : Mem) (Qx : Int32 → Mem → Prop) (h : X_X8_isEnd G Qx l0 σ) : MI l yX8_isEnd cX8_isEnd 1 ((some FieldType.boolean)) rm_X8_isEnd G D tc b0 [rv b0 l0] σ Qx :=
  x_entry (y := yX8_isEnd) [.inr (.inr l0)] 0 (by decide) (Nat.le_of_ble_eq_true rfl) (fun p e s m args below meth c ls C hr hW hl => t_X8_isEnd_0 C hr va_S.rf hW (hl.keep [true] rfl) h)
/-! X8_takes -/
set_option maxRecDepth 20000 in
set_option maxHeartbeats 4000000 in
theorem t_X8_takes_71 {p : Program} {l : Launch} {e : Env} {s : State} {m : MethodId} {args : Array Value} {below : List Frame} {meth : Method} {c : Code} {H : Heap} {locs : List Loc} {D : va_G} {tc : Nat → ClassId} {b0 : Nat} {ls : Array Slot} {G : Lay} {Qx : Int32 → Mem → Prop} {l3 : Int32}  {σ : Mem} (C : Cx p s m args meth c cX8_takes RX8 4 D tc b0) (hr : meth.sig.returnType = (some FieldType.boolean)) (hS : va_S (AA b0) s.heap H locs) (hW : Wd G D tc b0 σ H) (hl : hL b0 ls 4 [none, none, none, some (.inl l3)]) (h : X_X8_takes_71 G Qx l3  σ) : W p l e rm_X8_takes s m args below meth c H locs 0 0 (MQ below (va_Qi Qx (fun u t => Pw G D tc b0 u t) (AA b0)) args s 0 0 (AA b0)) (F0 m 71 ls []) := by
  have hx := C.1
  have hb := C.2.1
  unfold X_X8_takes_71 at h
  refine x_iload_n C hl dX8_takes_71 rfl ?_
  exact r_z C hr hW hS h.1 h.2 dX8_takes_72
set_option maxRecDepth 20000 in
set_option maxHeartbeats 4000000 in
theorem t_X8_takes_45 {p : Program} {l : Launch} {e : Env} {s : State} {m : MethodId} {args : Array Value} {below : List Frame} {meth : Method} {c : Code} {H : Heap} {locs : List Loc} {D : va_G} {tc : Nat → ClassId} {b0 : Nat} {ls : Array Slot} {G : Lay} {Qx : Int32 → Mem → Prop} {l0 : Nat} {k0 : Int32} {σ : Mem} (C : Cx p s m args meth c cX8_takes RX8 4 D tc b0) (hr : meth.sig.returnType = (some FieldType.boolean)) (hS : va_S (AA b0) s.heap H locs) (hW : Wd G D tc b0 σ H) (hl : hL b0 ls 4 [some (.inr (.inr l0)), none, none, none]) (h : X_X8_takes_45 G Qx l0 k0 σ) : W p l e rm_X8_takes s m args below meth c H locs 0 0 (MQ below (va_Qi Qx (fun u t => Pw G D tc b0 u t) (AA b0)) args s 0 0 (AA b0)) (F0 m 45 ls [.int k0]) := by
  have hx := C.1
  have hb := C.2.1
  unfold X_X8_takes_45 at h
  refine x_istore_n C hl dX8_takes_45 (by decide) rfl (fun ls hl => ?_)
  refine x_iload_n C hl dX8_takes_46 rfl ?_
  refine lv_if_eq hx hb dX8_takes_47 (tgt := 71) rfl (fun hc => ?_) (fun hc => ?_)
  · replace h := h.1 hc
    exact t_X8_takes_71 C hr hS hW (hl.keep [false, false, false, true] rfl) h
  · replace h := h.2 hc
    refine x_aload_n C hl dX8_takes_50 rfl ?_
    have t1 := h.1
    replace h := h.2
    refine x_get C hW (t := 8) (k := 4) t1 kl_8 (by decide) fl_X8_29 (v := .int (mI σ l0 4)) rfl dX8_takes_51 ?_
    refine x_aload_n C hl dX8_takes_54 rfl ?_
    refine x_get C hW (t := 8) (k := 3) t1 kl_8 (by decide) fl_X8_32 (v := .int (mI σ l0 3)) rfl dX8_takes_55 ?_
    refine lv_icmp_ge hx hb dX8_takes_58 (tgt := 71) rfl (fun hc => ?_) (fun hc => ?_)
    · replace h := h.1 hc
      exact t_X8_takes_71 C hr hS hW (hl.keep [false, false, false, true] rfl) h
    · replace h := h.2 hc
      refine x_aload_n C hl dX8_takes_61 rfl ?_
      refine lv_dup hx hb dX8_takes_62 (rv_cat _ _) ?_
      refine x_get C hW (t := 8) (k := 4) t1 kl_8 (by decide) fl_X8_29 (v := .int (mI σ l0 4)) rfl dX8_takes_63 ?_
      refine lv_iconst (v := (1 : Int32)) hx hb dX8_takes_66 (by decide) ?_
      refine lv_iadd hx hb dX8_takes_67 ?_
      refine x_putI C hW hS (t := 8) (k := 4) t1 kl_8 (by decide) fl_X8_29 rfl rfl rfl rfl dX8_takes_68 (fun H locs hW hS => ?_)
      obtain ⟨s2, e_s2⟩ : ∃ z : Mem, z = (sI σ l0 4 ((mI σ l0 4) + (1 : Int32))) := ⟨_, rfl⟩
      replace h := h s2 e_s2
      replace hW : Wd G D tc b0 s2 H := by rw [e_s2]; exact hW
      exact t_X8_takes_71 C hr hS hW (hl.keep [false, false, false, true] rfl) h
set_option maxRecDepth 20000 in
set_option maxHeartbeats 4000000 in
theorem t_X8_takes_44 {p : Program} {l : Launch} {e : Env} {s : State} {m : MethodId} {args : Array Value} {below : List Frame} {meth : Method} {c : Code} {H : Heap} {locs : List Loc} {D : va_G} {tc : Nat → ClassId} {b0 : Nat} {ls : Array Slot} {G : Lay} {Qx : Int32 → Mem → Prop} {l0 : Nat}  {σ : Mem} (C : Cx p s m args meth c cX8_takes RX8 4 D tc b0) (hr : meth.sig.returnType = (some FieldType.boolean)) (hS : va_S (AA b0) s.heap H locs) (hW : Wd G D tc b0 σ H) (hl : hL b0 ls 4 [some (.inr (.inr l0)), none, none, none]) (h : X_X8_takes_44 G Qx l0  σ) : W p l e rm_X8_takes s m args below meth c H locs 0 0 (MQ below (va_Qi Qx (fun u t => Pw G D tc b0 u t) (AA b0)) args s 0 0 (AA b0)) (F0 m 44 ls []) := by
  have hx := C.1
  have hb := C.2.1
  unfold X_X8_takes_44 at h
  refine lv_iconst (v := (0 : Int32)) hx hb dX8_takes_44 (by decide) ?_
  exact t_X8_takes_45 C hr hS hW (hl.keep [true, false, false, false] rfl) h
set_option maxRecDepth 20000 in
set_option maxHeartbeats 4000000 in
theorem t_X8_takes_26 {p : Program} {l : Launch} {e : Env} {s : State} {m : MethodId} {args : Array Value} {below : List Frame} {meth : Method} {c : Code} {H : Heap} {locs : List Loc} {D : va_G} {tc : Nat → ClassId} {b0 : Nat} {ls : Array Slot} {G : Lay} {Qx : Int32 → Mem → Prop} {l0 : Nat} {l1 : Int64}  {σ : Mem} (C : Cx p s m args meth c cX8_takes RX8 4 D tc b0) (hr : meth.sig.returnType = (some FieldType.boolean)) (hS : va_S (AA b0) s.heap H locs) (hW : Wd G D tc b0 σ H) (hl : hL b0 ls 4 [some (.inr (.inr l0)), some (.inr (.inl l1)), none, none]) (h : X_X8_takes_26 G Qx l0 l1  σ) : W p l e rm_X8_takes s m args below meth c H locs 0 0 (MQ below (va_Qi Qx (fun u t => Pw G D tc b0 u t) (AA b0)) args s 0 0 (AA b0)) (F0 m 26 ls []) := by
  have hx := C.1
  have hb := C.2.1
  unfold X_X8_takes_26 at h
  refine x_aload_n C hl dX8_takes_26 rfl ?_
  have t1 := h.1
  replace h := h.2
  refine x_get C hW (t := 8) (k := 2) t1 kl_8 (by decide) fl_X8_18 (v := rv b0 (mR σ l0 2)) rfl dX8_takes_27 ?_
  refine x_aload_n C hl dX8_takes_30 rfl ?_
  refine x_get C hW (t := 8) (k := 4) t1 kl_8 (by decide) fl_X8_29 (v := .int (mI σ l0 4)) rfl dX8_takes_31 ?_
  have t2 := h.1
  replace h := h.2
  have v3 := h.1
  replace h := h.2
  refine x_lald C hW t2 v3 dX8_takes_34 ?_
  refine x_lload_n C hl dX8_takes_35 rfl ?_
  refine W.lcmp hx hb dX8_takes_36 ?_
  refine lv_if_ne hx hb dX8_takes_37 (tgt := 44) rfl (fun hc => ?_) (fun hc => ?_)
  · replace h := h.2 hc
    exact t_X8_takes_44 C hr hS hW (hl.keep [true, false, false, false] rfl) h
  · replace h := h.1 hc
    refine lv_iconst (v := (1 : Int32)) hx hb dX8_takes_40 (by decide) ?_
    refine lv_goto hx hb dX8_takes_41 (tgt := 45) rfl ?_
    exact t_X8_takes_45 C hr hS hW (hl.keep [true, false, false, false] rfl) h
set_option maxRecDepth 20000 in
set_option maxHeartbeats 4000000 in
theorem t_X8_takes_0 {p : Program} {l : Launch} {e : Env} {s : State} {m : MethodId} {args : Array Value} {below : List Frame} {meth : Method} {c : Code} {H : Heap} {locs : List Loc} {D : va_G} {tc : Nat → ClassId} {b0 : Nat} {ls : Array Slot} {G : Lay} {Qx : Int32 → Mem → Prop} {l0 : Nat} {l1 : Int64}  {σ : Mem} (C : Cx p s m args meth c cX8_takes RX8 4 D tc b0) (hr : meth.sig.returnType = (some FieldType.boolean)) (hS : va_S (AA b0) s.heap H locs) (hW : Wd G D tc b0 σ H) (hl : hL b0 ls 4 [some (.inr (.inr l0)), some (.inr (.inl l1)), none, none]) (h : X_X8_takes_0 G Qx l0 l1  σ) : W p l e rm_X8_takes s m args below meth c H locs 0 0 (MQ below (va_Qi Qx (fun u t => Pw G D tc b0 u t) (AA b0)) args s 0 0 (AA b0)) (F0 m 0 ls []) := by
  have hx := C.1
  have hb := C.2.1
  unfold X_X8_takes_0 at h
  refine x_aload_n C hl dX8_takes_0 rfl ?_
  have t1 := h.1
  replace h := h.2
  refine x_get C hW (t := 8) (k := 0) t1 kl_8 (by decide) fl_X8_9 (v := rv b0 (mR σ l0 0)) rfl dX8_takes_1 ?_
  refine x_aload_n C hl dX8_takes_4 rfl ?_
  refine x_get C hW (t := 8) (k := 4) t1 kl_8 (by decide) fl_X8_29 (v := .int (mI σ l0 4)) rfl dX8_takes_5 ?_
  have t2 := h.1
  replace h := h.2
  have v3 := h.1
  replace h := h.2
  refine x_iald C hW t2 v3 dX8_takes_8 ?_
  refine lv_iconst (v := (3 : Int32)) hx hb dX8_takes_9 (by decide) ?_
  refine lv_icmp_eq hx hb dX8_takes_10 (tgt := 26) rfl (fun hc => ?_) (fun hc => ?_)
  · replace h := h.1 hc
    exact t_X8_takes_26 C hr hS hW (hl.keep [true, true, false, false] rfl) h
  · replace h := h.2 hc
    refine x_aload_n C hl dX8_takes_13 rfl ?_
    refine x_get C hW (t := 8) (k := 0) t1 kl_8 (by decide) fl_X8_9 (v := rv b0 (mR σ l0 0)) rfl dX8_takes_14 ?_
    refine x_aload_n C hl dX8_takes_17 rfl ?_
    refine x_get C hW (t := 8) (k := 4) t1 kl_8 (by decide) fl_X8_29 (v := .int (mI σ l0 4)) rfl dX8_takes_18 ?_
    refine x_iald C hW t2 v3 dX8_takes_21 ?_
    refine lv_iconst (v := (5 : Int32)) hx hb dX8_takes_22 (by decide) ?_
    refine lv_icmp_ne hx hb dX8_takes_23 (tgt := 44) rfl (fun hc => ?_) (fun hc => ?_)
    · replace h := h.2 hc
      exact t_X8_takes_44 C hr hS hW (hl.keep [true, false, false, false] rfl) h
    · replace h := h.1 hc
      exact t_X8_takes_26 C hr hS hW (hl.keep [true, true, false, false] rfl) h
theorem T_X8_takes (l : Launch) {G : Lay} {D : va_G} {tc : Nat → ClassId} {b0 : Nat} (l0 : Nat) (l1 : Int64) (σ : Mem) (Qx : Int32 → Mem → Prop) (h : X_X8_takes G Qx l0 l1 σ) : MI l yX8_takes cX8_takes 4 ((some FieldType.boolean)) rm_X8_takes G D tc b0 [rv b0 l0, .long l1] σ Qx :=
  x_entry (y := yX8_takes) [.inr (.inr l0), .inr (.inl l1)] 1 (by decide) (Nat.le_of_ble_eq_true rfl) (fun p e s m args below meth c ls C hr hW hl => t_X8_takes_0 C hr va_S.rf hW (hl.keep [true, true, false, false] rfl) h)
/-! X8_misplaced -/
set_option maxRecDepth 20000 in
set_option maxHeartbeats 4000000 in
theorem t_X8_misplaced_19 {p : Program} {l : Launch} {e : Env} {s : State} {m : MethodId} {args : Array Value} {below : List Frame} {meth : Method} {c : Code} {H : Heap} {locs : List Loc} {D : va_G} {tc : Nat → ClassId} {b0 : Nat} {ls : Array Slot} {G : Lay} {Qx : Int32 → Mem → Prop} {l0 : Nat} {k0 : Nat} {k1 : Int32} {σ : Mem} (C : Cx p s m args meth c cX8_misplaced RX8 1 D tc b0) (hr : meth.sig.returnType = (some FieldType.boolean)) (hS : va_S (AA b0) s.heap H locs) (hW : Wd G D tc b0 σ H) (hl : hL b0 ls 1 [some (.inr (.inr l0))]) (h : X_X8_misplaced_19 G Qx l0 k0 k1 σ) : W p l e rm_X8_misplaced s m args below meth c H locs 0 0 (MQ below (va_Qi Qx (fun u t => Pw G D tc b0 u t) (AA b0)) args s 0 0 (AA b0)) (F0 m 19 ls [.int k1, rv b0 k0]) := by
  have hx := C.1
  have hb := C.2.1
  unfold X_X8_misplaced_19 at h
  have t1 := h.1
  replace h := h.2
  refine x_putI C hW hS (t := 8) (k := 5) t1 kl_8 (by decide) fl_X8_26 rfl rfl rfl rfl dX8_misplaced_19 (fun H locs hW hS => ?_)
  obtain ⟨s2, e_s2⟩ : ∃ z : Mem, z = (sI σ k0 5 k1) := ⟨_, rfl⟩
  replace h := h s2 e_s2
  replace hW : Wd G D tc b0 s2 H := by rw [e_s2]; exact hW
  refine x_aload_n C hl dX8_misplaced_22 rfl ?_
  refine x_aload_n C hl dX8_misplaced_23 rfl ?_
  have t3 := h.1
  replace h := h.2
  refine x_get C hW (t := 8) (k := 1) t3 kl_8 (by decide) fl_X8_15 (v := rv b0 (mR s2 l0 1)) rfl dX8_misplaced_24 ?_
  refine x_aload_n C hl dX8_misplaced_27 rfl ?_
  refine x_get C hW (t := 8) (k := 4) t3 kl_8 (by decide) fl_X8_29 (v := .int (mI s2 l0 4)) rfl dX8_misplaced_28 ?_
  have t4 := h.1
  replace h := h.2
  have v5 := h.1
  replace h := h.2
  refine x_iald C hW t4 v5 dX8_misplaced_31 ?_
  refine x_putI C hW hS (t := 8) (k := 6) t3 kl_8 (by decide) fl_X8_22 rfl rfl rfl rfl dX8_misplaced_32 (fun H locs hW hS => ?_)
  obtain ⟨s6, e_s6⟩ : ∃ z : Mem, z = (sI s2 l0 6 (mI s2 (mR s2 l0 1) (mI s2 l0 4).toNatClampNeg)) := ⟨_, rfl⟩
  replace h := h s6 e_s6
  replace hW : Wd G D tc b0 s6 H := by rw [e_s6]; exact hW
  refine lv_iconst (v := (0 : Int32)) hx hb dX8_misplaced_35 (by decide) ?_
  exact r_z C hr hW hS h.1 h.2 dX8_misplaced_36
set_option maxRecDepth 20000 in
set_option maxHeartbeats 4000000 in
theorem t_X8_misplaced_0 {p : Program} {l : Launch} {e : Env} {s : State} {m : MethodId} {args : Array Value} {below : List Frame} {meth : Method} {c : Code} {H : Heap} {locs : List Loc} {D : va_G} {tc : Nat → ClassId} {b0 : Nat} {ls : Array Slot} {G : Lay} {Qx : Int32 → Mem → Prop} {l0 : Nat}  {σ : Mem} (C : Cx p s m args meth c cX8_misplaced RX8 1 D tc b0) (hr : meth.sig.returnType = (some FieldType.boolean)) (hS : va_S (AA b0) s.heap H locs) (hW : Wd G D tc b0 σ H) (hl : hL b0 ls 1 [some (.inr (.inr l0))]) (h : X_X8_misplaced_0 G Qx l0  σ) : W p l e rm_X8_misplaced s m args below meth c H locs 0 0 (MQ below (va_Qi Qx (fun u t => Pw G D tc b0 u t) (AA b0)) args s 0 0 (AA b0)) (F0 m 0 ls []) := by
  have hx := C.1
  have hb := C.2.1
  unfold X_X8_misplaced_0 at h
  refine x_aload_n C hl dX8_misplaced_0 rfl ?_
  refine x_aload_n C hl dX8_misplaced_1 rfl ?_
  have t1 := h.1
  replace h := h.2
  refine x_get C hW (t := 8) (k := 0) t1 kl_8 (by decide) fl_X8_9 (v := rv b0 (mR σ l0 0)) rfl dX8_misplaced_2 ?_
  refine x_aload_n C hl dX8_misplaced_5 rfl ?_
  refine x_get C hW (t := 8) (k := 4) t1 kl_8 (by decide) fl_X8_29 (v := .int (mI σ l0 4)) rfl dX8_misplaced_6 ?_
  have t2 := h.1
  replace h := h.2
  have v3 := h.1
  replace h := h.2
  refine x_iald C hW t2 v3 dX8_misplaced_9 ?_
  refine lv_iconst (v := (1 : Int32)) hx hb dX8_misplaced_10 (by decide) ?_
  refine lv_icmp_ne hx hb dX8_misplaced_11 (tgt := 18) rfl (fun hc => ?_) (fun hc => ?_)
  · replace h := h.2 hc
    refine lv_iconst (v := (2 : Int32)) hx hb dX8_misplaced_18 (by decide) ?_
    exact t_X8_misplaced_19 C hr hS hW (hl.keep [true] rfl) h
  · replace h := h.1 hc
    refine lv_iconst (v := (1 : Int32)) hx hb dX8_misplaced_14 (by decide) ?_
    refine lv_goto hx hb dX8_misplaced_15 (tgt := 19) rfl ?_
    exact t_X8_misplaced_19 C hr hS hW (hl.keep [true] rfl) h
theorem T_X8_misplaced (l : Launch) {G : Lay} {D : va_G} {tc : Nat → ClassId} {b0 : Nat} (l0 : Nat) (σ : Mem) (Qx : Int32 → Mem → Prop) (h : X_X8_misplaced G Qx l0 σ) : MI l yX8_misplaced cX8_misplaced 1 ((some FieldType.boolean)) rm_X8_misplaced G D tc b0 [rv b0 l0] σ Qx :=
  x_entry (y := yX8_misplaced) [.inr (.inr l0)] 0 (by decide) (Nat.le_of_ble_eq_true rfl) (fun p e s m args below meth c ls C hr hW hl => t_X8_misplaced_0 C hr va_S.rf hW (hl.keep [true] rfl) h)
/-! X8_expects -/
set_option maxRecDepth 20000 in
set_option maxHeartbeats 4000000 in
theorem t_X8_expects_20 {p : Program} {l : Launch} {e : Env} {s : State} {m : MethodId} {args : Array Value} {below : List Frame} {meth : Method} {c : Code} {H : Heap} {locs : List Loc} {D : va_G} {tc : Nat → ClassId} {b0 : Nat} {ls : Array Slot} {G : Lay} {Qx : Int32 → Mem → Prop}  {k0 : Int32} {σ : Mem} (C : Cx p s m args meth c cX8_expects RX8 3 D tc b0) (hr : meth.sig.returnType = (some FieldType.boolean)) (hS : va_S (AA b0) s.heap H locs) (hW : Wd G D tc b0 σ H) (hl : hL b0 ls 3 [none, none, none]) (h : X_X8_expects_20 G Qx  k0 σ) : W p l e rm_X8_expects s m args below meth c H locs 0 0 (MQ below (va_Qi Qx (fun u t => Pw G D tc b0 u t) (AA b0)) args s 0 0 (AA b0)) (F0 m 20 ls [.int k0]) := by
  have hx := C.1
  have hb := C.2.1
  unfold X_X8_expects_20 at h
  exact r_z C hr hW hS h.1 h.2 dX8_expects_20
set_option maxRecDepth 20000 in
set_option maxHeartbeats 4000000 in
theorem t_X8_expects_15 {p : Program} {l : Launch} {e : Env} {s : State} {m : MethodId} {args : Array Value} {below : List Frame} {meth : Method} {c : Code} {H : Heap} {locs : List Loc} {D : va_G} {tc : Nat → ClassId} {b0 : Nat} {ls : Array Slot} {G : Lay} {Qx : Int32 → Mem → Prop}   {σ : Mem} (C : Cx p s m args meth c cX8_expects RX8 3 D tc b0) (hr : meth.sig.returnType = (some FieldType.boolean)) (hS : va_S (AA b0) s.heap H locs) (hW : Wd G D tc b0 σ H) (hl : hL b0 ls 3 [none, none, none]) (h : X_X8_expects_15 G Qx   σ) : W p l e rm_X8_expects s m args below meth c H locs 0 0 (MQ below (va_Qi Qx (fun u t => Pw G D tc b0 u t) (AA b0)) args s 0 0 (AA b0)) (F0 m 15 ls []) := by
  have hx := C.1
  have hb := C.2.1
  unfold X_X8_expects_15 at h
  refine lv_iconst (v := (1 : Int32)) hx hb dX8_expects_15 (by decide) ?_
  refine lv_goto hx hb dX8_expects_16 (tgt := 20) rfl ?_
  exact t_X8_expects_20 C hr hS hW (hl.keep [false, false, false] rfl) h
set_option maxRecDepth 20000 in
set_option maxHeartbeats 4000000 in
theorem t_X8_expects_0 {p : Program} {l : Launch} {e : Env} {s : State} {m : MethodId} {args : Array Value} {below : List Frame} {meth : Method} {c : Code} {H : Heap} {locs : List Loc} {D : va_G} {tc : Nat → ClassId} {b0 : Nat} {ls : Array Slot} {G : Lay} {Qx : Int32 → Mem → Prop} {l0 : Nat} {l1 : Int64}  {σ : Mem} (C : Cx p s m args meth c cX8_expects RX8 3 D tc b0) (hr : meth.sig.returnType = (some FieldType.boolean)) (hS : va_S (AA b0) s.heap H locs) (hW : Wd G D tc b0 σ H) (hl : hL b0 ls 3 [some (.inr (.inr l0)), some (.inr (.inl l1)), none]) (h : X_X8_expects_0 G Qx l0 l1  σ) : W p l e rm_X8_expects s m args below meth c H locs 0 0 (MQ below (va_Qi Qx (fun u t => Pw G D tc b0 u t) (AA b0)) args s 0 0 (AA b0)) (F0 m 0 ls []) := by
  have hx := C.1
  have hb := C.2.1
  unfold X_X8_expects_0 at h
  refine x_aload_n C hl dX8_expects_0 rfl ?_
  refine x_lload_n C hl dX8_expects_1 rfl ?_
  have t1 := h.1
  replace h := h.2
  refine y_i (x_run (As := [.long l1]) C hW hS (T_X8_takes l l0 l1 σ _ h) t1 kl_8 (CW.of yv_X8_takes ml_X8_76) ⟨rfl, rfl, ⟨by decide, by decide⟩, by decide, by decide⟩ rfl hl.1 rfl (by decide) dX8_expects_2) hS (fun w3 s2 H locs h hW hS => ?_)
  refine lv_if_ne hx hb dX8_expects_5 (tgt := 15) rfl (fun hc => ?_) (fun hc => ?_)
  · replace h := h.2 hc
    exact t_X8_expects_15 C hr hS hW (hl.keep [false, false, false] rfl) h
  · replace h := h.1 hc
    refine x_aload_n C hl dX8_expects_8 rfl ?_
    refine y_i (x_run (As := []) C hW hS (T_X8_misplaced l l0 s2 _ h) t1 kl_8 (CW.of yv_X8_misplaced ml_X8_79) ⟨rfl, rfl, ⟨by decide, by decide⟩, by decide, by decide⟩ rfl hl.1 rfl (by decide) dX8_expects_9) hS (fun w5 s4 H locs h hW hS => ?_)
    refine lv_if_eq hx hb dX8_expects_12 (tgt := 19) rfl (fun hc => ?_) (fun hc => ?_)
    · replace h := h.1 hc
      refine lv_iconst (v := (0 : Int32)) hx hb dX8_expects_19 (by decide) ?_
      exact t_X8_expects_20 C hr hS hW (hl.keep [false, false, false] rfl) h
    · replace h := h.2 hc
      exact t_X8_expects_15 C hr hS hW (hl.keep [false, false, false] rfl) h
theorem T_X8_expects (l : Launch) {G : Lay} {D : va_G} {tc : Nat → ClassId} {b0 : Nat} (l0 : Nat) (l1 : Int64) (σ : Mem) (Qx : Int32 → Mem → Prop) (h : X_X8_expects G Qx l0 l1 σ) : MI l yX8_expects cX8_expects 3 ((some FieldType.boolean)) rm_X8_expects G D tc b0 [rv b0 l0, .long l1] σ Qx :=
  x_entry (y := yX8_expects) [.inr (.inr l0), .inr (.inl l1)] 0 (by decide) (Nat.le_of_ble_eq_true rfl) (fun p e s m args below meth c ls C hr hW hl => t_X8_expects_0 C hr va_S.rf hW (hl.keep [true, true, false] rfl) h)
/-! X8_isName -/
set_option maxRecDepth 20000 in
set_option maxHeartbeats 4000000 in
theorem t_X8_isName_18 {p : Program} {l : Launch} {e : Env} {s : State} {m : MethodId} {args : Array Value} {below : List Frame} {meth : Method} {c : Code} {H : Heap} {locs : List Loc} {D : va_G} {tc : Nat → ClassId} {b0 : Nat} {ls : Array Slot} {G : Lay} {Qx : Int32 → Mem → Prop}  {k0 : Int32} {σ : Mem} (C : Cx p s m args meth c cX8_isName RX8 1 D tc b0) (hr : meth.sig.returnType = (some FieldType.boolean)) (hS : va_S (AA b0) s.heap H locs) (hW : Wd G D tc b0 σ H) (hl : hL b0 ls 1 [none]) (h : X_X8_isName_18 G Qx  k0 σ) : W p l e rm_X8_isName s m args below meth c H locs 0 0 (MQ below (va_Qi Qx (fun u t => Pw G D tc b0 u t) (AA b0)) args s 0 0 (AA b0)) (F0 m 18 ls [.int k0]) := by
  have hx := C.1
  have hb := C.2.1
  unfold X_X8_isName_18 at h
  exact r_z C hr hW hS h.1 h.2 dX8_isName_18
set_option maxRecDepth 20000 in
set_option maxHeartbeats 4000000 in
theorem t_X8_isName_0 {p : Program} {l : Launch} {e : Env} {s : State} {m : MethodId} {args : Array Value} {below : List Frame} {meth : Method} {c : Code} {H : Heap} {locs : List Loc} {D : va_G} {tc : Nat → ClassId} {b0 : Nat} {ls : Array Slot} {G : Lay} {Qx : Int32 → Mem → Prop} {l0 : Nat}  {σ : Mem} (C : Cx p s m args meth c cX8_isName RX8 1 D tc b0) (hr : meth.sig.returnType = (some FieldType.boolean)) (hS : va_S (AA b0) s.heap H locs) (hW : Wd G D tc b0 σ H) (hl : hL b0 ls 1 [some (.inr (.inr l0))]) (h : X_X8_isName_0 G Qx l0  σ) : W p l e rm_X8_isName s m args below meth c H locs 0 0 (MQ below (va_Qi Qx (fun u t => Pw G D tc b0 u t) (AA b0)) args s 0 0 (AA b0)) (F0 m 0 ls []) := by
  have hx := C.1
  have hb := C.2.1
  unfold X_X8_isName_0 at h
  refine x_aload_n C hl dX8_isName_0 rfl ?_
  have t1 := h.1
  replace h := h.2
  refine x_get C hW (t := 8) (k := 0) t1 kl_8 (by decide) fl_X8_9 (v := rv b0 (mR σ l0 0)) rfl dX8_isName_1 ?_
  refine x_aload_n C hl dX8_isName_4 rfl ?_
  refine x_get C hW (t := 8) (k := 4) t1 kl_8 (by decide) fl_X8_29 (v := .int (mI σ l0 4)) rfl dX8_isName_5 ?_
  have t2 := h.1
  replace h := h.2
  have v3 := h.1
  replace h := h.2
  refine x_iald C hW t2 v3 dX8_isName_8 ?_
  refine lv_iconst (v := (2 : Int32)) hx hb dX8_isName_9 (by decide) ?_
  refine lv_icmp_ne hx hb dX8_isName_10 (tgt := 17) rfl (fun hc => ?_) (fun hc => ?_)
  · replace h := h.2 hc
    refine lv_iconst (v := (0 : Int32)) hx hb dX8_isName_17 (by decide) ?_
    exact t_X8_isName_18 C hr hS hW (hl.keep [false] rfl) h
  · replace h := h.1 hc
    refine lv_iconst (v := (1 : Int32)) hx hb dX8_isName_13 (by decide) ?_
    refine lv_goto hx hb dX8_isName_14 (tgt := 18) rfl ?_
    exact t_X8_isName_18 C hr hS hW (hl.keep [false] rfl) h
theorem T_X8_isName (l : Launch) {G : Lay} {D : va_G} {tc : Nat → ClassId} {b0 : Nat} (l0 : Nat) (σ : Mem) (Qx : Int32 → Mem → Prop) (h : X_X8_isName G Qx l0 σ) : MI l yX8_isName cX8_isName 1 ((some FieldType.boolean)) rm_X8_isName G D tc b0 [rv b0 l0] σ Qx :=
  x_entry (y := yX8_isName) [.inr (.inr l0)] 0 (by decide) (Nat.le_of_ble_eq_true rfl) (fun p e s m args below meth c ls C hr hW hl => t_X8_isName_0 C hr va_S.rf hW (hl.keep [true] rfl) h)
/-! X8_word -/
set_option maxRecDepth 20000 in
set_option maxHeartbeats 4000000 in
theorem t_X8_word_0 {p : Program} {l : Launch} {e : Env} {s : State} {m : MethodId} {args : Array Value} {below : List Frame} {meth : Method} {c : Code} {H : Heap} {locs : List Loc} {D : va_G} {tc : Nat → ClassId} {b0 : Nat} {ls : Array Slot} {G : Lay} {Qx : Int64 → Mem → Prop} {l0 : Nat}  {σ : Mem} (C : Cx p s m args meth c cX8_word RX8 1 D tc b0) (hr : meth.sig.returnType = (some FieldType.long)) (hS : va_S (AA b0) s.heap H locs) (hW : Wd G D tc b0 σ H) (hl : hL b0 ls 1 [some (.inr (.inr l0))]) (h : X_X8_word_0 G Qx l0  σ) : W p l e rm_X8_word s m args below meth c H locs 0 0 (MQ below (va_Ql Qx (fun u t => Pw G D tc b0 u t) (AA b0)) args s 0 0 (AA b0)) (F0 m 0 ls []) := by
  have hx := C.1
  have hb := C.2.1
  unfold X_X8_word_0 at h
  refine x_aload_n C hl dX8_word_0 rfl ?_
  have t1 := h.1
  replace h := h.2
  refine x_get C hW (t := 8) (k := 2) t1 kl_8 (by decide) fl_X8_18 (v := rv b0 (mR σ l0 2)) rfl dX8_word_1 ?_
  refine x_aload_n C hl dX8_word_4 rfl ?_
  refine x_get C hW (t := 8) (k := 4) t1 kl_8 (by decide) fl_X8_29 (v := .int (mI σ l0 4)) rfl dX8_word_5 ?_
  have t2 := h.1
  replace h := h.2
  have v3 := h.1
  replace h := h.2
  refine x_lald C hW t2 v3 dX8_word_8 ?_
  exact r_l C hr hW hS h dX8_word_9
theorem T_X8_word (l : Launch) {G : Lay} {D : va_G} {tc : Nat → ClassId} {b0 : Nat} (l0 : Nat) (σ : Mem) (Qx : Int64 → Mem → Prop) (h : X_X8_word G Qx l0 σ) : ML l yX8_word cX8_word 1 ((some FieldType.long)) rm_X8_word G D tc b0 [rv b0 l0] σ Qx :=
  x_entry (y := yX8_word) [.inr (.inr l0)] 0 (by decide) (Nat.le_of_ble_eq_true rfl) (fun p e s m args below meth c ls C hr hW hl => t_X8_word_0 C hr va_S.rf hW (hl.keep [true] rfl) h)
/-! X6_classNamed -/
set_option maxRecDepth 20000 in
set_option maxHeartbeats 4000000 in
theorem t_X6_classNamed_2_n {p : Program} {l : Launch} {e : Env} {s : State} {m : MethodId} {args : Array Value} {below : List Frame} {meth : Method} {c : Code} {D : va_G} {tc : Nat → ClassId} {b0 : Nat} {G : Lay} {Qx : Int32 → Mem → Prop} {l0 : Nat} {l1 : Int64} (C : Cx p s m args meth c cX6_classNamed RX6 4 D tc b0) (hr : meth.sig.returnType = (some FieldType.int)) (n : Nat) : ∀ (l3 : Int32) (σ : Mem) (H : Heap) (locs : List Loc) (ls : Array Slot), va_S (AA b0) s.heap H locs → Wd G D tc b0 σ H → hL b0 ls 4 [some (.inr (.inr l0)), some (.inr (.inl l1)), none, some (.inl l3)] → Lp (X_X6_classNamed_2_s G Qx l0 l1) n (l3, σ) → W p l e rm_X6_classNamed s m args below meth c H locs 0 0 (MQ below (va_Qi Qx (fun u t => Pw G D tc b0 u t) (AA b0)) args s 0 0 (AA b0)) (F0 m 2 ls []) := by
  have hx := C.1
  have hb := C.2.1
  induction n with
  | zero => intro l3 σ H locs ls hS hW hl h; exact False.elim h
  | succ n hK2 =>
    intro l3 σ H locs ls hS hW hl h
    replace h : X_X6_classNamed_2_s G Qx l0 l1 (Lp (X_X6_classNamed_2_s G Qx l0 l1) n) (l3, σ) := h
    unfold X_X6_classNamed_2_s at h
    refine x_iload_n C hl dX6_classNamed_2 rfl ?_
    refine x_aload_n C hl dX6_classNamed_3 rfl ?_
    have t1 := h.1
    replace h := h.2
    refine x_get C hW (t := 6) (k := 0) t1 kl_6 (by decide) fl_X6_29 (v := .int (mI σ l0 0)) rfl dX6_classNamed_4 ?_
    refine lv_icmp_ge hx hb dX6_classNamed_7 (tgt := 32) rfl (fun hc => ?_) (fun hc => ?_)
    · replace h := h.1 hc
      refine lv_iconst (v := (-1 : Int32)) hx hb dX6_classNamed_32 (by decide) ?_
      exact r_i C hr hW hS h dX6_classNamed_33
    · replace h := h.2 hc
      refine x_aload_n C hl dX6_classNamed_10 rfl ?_
      refine x_get C hW (t := 6) (k := 1) t1 kl_6 (by decide) fl_X6_11 (v := rv b0 (mR σ l0 1)) rfl dX6_classNamed_11 ?_
      refine x_iload_n C hl dX6_classNamed_14 rfl ?_
      have t2 := h.1
      replace h := h.2
      have v3 := h.1
      replace h := h.2
      refine x_aald C hW (t := 103) (t0 := 4) t2 (by decide) rfl v3 dX6_classNamed_15 ?_
      have t4 := h.1
      replace h := h.2
      refine x_get C hW (t := 1) (k := 0) t4 kl_1 (by decide) fl_X6_56 (v := .long (mJ σ (mR σ (mR σ l0 1) l3.toNatClampNeg) 0)) rfl dX6_classNamed_16 ?_
      refine x_lload_n C hl dX6_classNamed_19 rfl ?_
      refine W.lcmp hx hb dX6_classNamed_20 ?_
      refine lv_if_ne hx hb dX6_classNamed_21 (tgt := 26) rfl (fun hc => ?_) (fun hc => ?_)
      · replace h := h.2 hc
        refine x_iinc C hl dX6_classNamed_26 rfl (v := (1 : Int32)) (by decide) (by decide) rfl (fun ls hl => ?_)
        refine lv_goto hx hb dX6_classNamed_29 (tgt := 2) rfl ?_
        exact hK2 _ _ _ _ _ hS hW (hl.keep [true, true, false, true] rfl) h
      · replace h := h.1 hc
        refine x_iload_n C hl dX6_classNamed_24 rfl ?_
        exact r_i C hr hW hS h dX6_classNamed_25
set_option maxRecDepth 20000 in
set_option maxHeartbeats 4000000 in
theorem t_X6_classNamed_2 {p : Program} {l : Launch} {e : Env} {s : State} {m : MethodId} {args : Array Value} {below : List Frame} {meth : Method} {c : Code} {H : Heap} {locs : List Loc} {D : va_G} {tc : Nat → ClassId} {b0 : Nat} {ls : Array Slot} {G : Lay} {Qx : Int32 → Mem → Prop} {l0 : Nat} {l1 : Int64} {l3 : Int32}  {σ : Mem} (C : Cx p s m args meth c cX6_classNamed RX6 4 D tc b0) (hr : meth.sig.returnType = (some FieldType.int)) (hS : va_S (AA b0) s.heap H locs) (hW : Wd G D tc b0 σ H) (hl : hL b0 ls 4 [some (.inr (.inr l0)), some (.inr (.inl l1)), none, some (.inl l3)]) (h : X_X6_classNamed_2 G Qx l0 l1 l3 σ) : W p l e rm_X6_classNamed s m args below meth c H locs 0 0 (MQ below (va_Qi Qx (fun u t => Pw G D tc b0 u t) (AA b0)) args s 0 0 (AA b0)) (F0 m 2 ls []) := by
  obtain ⟨n, h⟩ := h
  exact t_X6_classNamed_2_n C hr n l3 σ H locs ls hS hW hl h
set_option maxRecDepth 20000 in
set_option maxHeartbeats 4000000 in
theorem t_X6_classNamed_0 {p : Program} {l : Launch} {e : Env} {s : State} {m : MethodId} {args : Array Value} {below : List Frame} {meth : Method} {c : Code} {H : Heap} {locs : List Loc} {D : va_G} {tc : Nat → ClassId} {b0 : Nat} {ls : Array Slot} {G : Lay} {Qx : Int32 → Mem → Prop} {l0 : Nat} {l1 : Int64}  {σ : Mem} (C : Cx p s m args meth c cX6_classNamed RX6 4 D tc b0) (hr : meth.sig.returnType = (some FieldType.int)) (hS : va_S (AA b0) s.heap H locs) (hW : Wd G D tc b0 σ H) (hl : hL b0 ls 4 [some (.inr (.inr l0)), some (.inr (.inl l1)), none, none]) (h : X_X6_classNamed_0 G Qx l0 l1  σ) : W p l e rm_X6_classNamed s m args below meth c H locs 0 0 (MQ below (va_Qi Qx (fun u t => Pw G D tc b0 u t) (AA b0)) args s 0 0 (AA b0)) (F0 m 0 ls []) := by
  have hx := C.1
  have hb := C.2.1
  unfold X_X6_classNamed_0 at h
  refine lv_iconst (v := (0 : Int32)) hx hb dX6_classNamed_0 (by decide) ?_
  refine x_istore_n C hl dX6_classNamed_1 (by decide) rfl (fun ls hl => ?_)
  exact t_X6_classNamed_2 C hr hS hW (hl.keep [true, true, false, true] rfl) h
theorem T_X6_classNamed (l : Launch) {G : Lay} {D : va_G} {tc : Nat → ClassId} {b0 : Nat} (l0 : Nat) (l1 : Int64) (σ : Mem) (Qx : Int32 → Mem → Prop) (h : X_X6_classNamed G Qx l0 l1 σ) : MI l yX6_classNamed cX6_classNamed 4 ((some FieldType.int)) rm_X6_classNamed G D tc b0 [rv b0 l0, .long l1] σ Qx :=
  x_entry (y := yX6_classNamed) [.inr (.inr l0), .inr (.inl l1)] 1 (by decide) (Nat.le_of_ble_eq_true rfl) (fun p e s m args below meth c ls C hr hW hl => t_X6_classNamed_0 C hr va_S.rf hW (hl.keep [true, true, false, false] rfl) h)
/-! X8_refuseAt -/
set_option maxRecDepth 20000 in
set_option maxHeartbeats 4000000 in
theorem t_X8_refuseAt_0 {p : Program} {l : Launch} {e : Env} {s : State} {m : MethodId} {args : Array Value} {below : List Frame} {meth : Method} {c : Code} {H : Heap} {locs : List Loc} {D : va_G} {tc : Nat → ClassId} {b0 : Nat} {ls : Array Slot} {G : Lay} {Qx : Int32 → Mem → Prop} {l0 : Nat} {l1 : Int32} {l2 : Int32}  {σ : Mem} (C : Cx p s m args meth c cX8_refuseAt RX8 3 D tc b0) (hr : meth.sig.returnType = (some FieldType.boolean)) (hS : va_S (AA b0) s.heap H locs) (hW : Wd G D tc b0 σ H) (hl : hL b0 ls 3 [some (.inr (.inr l0)), some (.inl l1), some (.inl l2)]) (h : X_X8_refuseAt_0 G Qx l0 l1 l2  σ) : W p l e rm_X8_refuseAt s m args below meth c H locs 0 0 (MQ below (va_Qi Qx (fun u t => Pw G D tc b0 u t) (AA b0)) args s 0 0 (AA b0)) (F0 m 0 ls []) := by
  have hx := C.1
  have hb := C.2.1
  unfold X_X8_refuseAt_0 at h
  refine x_aload_n C hl dX8_refuseAt_0 rfl ?_
  refine x_iload_n C hl dX8_refuseAt_1 rfl ?_
  have t1 := h.1
  replace h := h.2
  refine x_putI C hW hS (t := 8) (k := 5) t1 kl_8 (by decide) fl_X8_26 rfl rfl rfl rfl dX8_refuseAt_2 (fun H locs hW hS => ?_)
  obtain ⟨s2, e_s2⟩ : ∃ z : Mem, z = (sI σ l0 5 l1) := ⟨_, rfl⟩
  replace h := h s2 e_s2
  replace hW : Wd G D tc b0 s2 H := by rw [e_s2]; exact hW
  refine x_aload_n C hl dX8_refuseAt_5 rfl ?_
  refine x_iload_n C hl dX8_refuseAt_6 rfl ?_
  refine x_putI C hW hS (t := 8) (k := 6) t1 kl_8 (by decide) fl_X8_22 rfl rfl rfl rfl dX8_refuseAt_7 (fun H locs hW hS => ?_)
  obtain ⟨s3, e_s3⟩ : ∃ z : Mem, z = (sI s2 l0 6 l2) := ⟨_, rfl⟩
  replace h := h s3 e_s3
  replace hW : Wd G D tc b0 s3 H := by rw [e_s3]; exact hW
  refine lv_iconst (v := (0 : Int32)) hx hb dX8_refuseAt_10 (by decide) ?_
  exact r_z C hr hW hS h.1 h.2 dX8_refuseAt_11
theorem T_X8_refuseAt (l : Launch) {G : Lay} {D : va_G} {tc : Nat → ClassId} {b0 : Nat} (l0 : Nat) (l1 : Int32) (l2 : Int32) (σ : Mem) (Qx : Int32 → Mem → Prop) (h : X_X8_refuseAt G Qx l0 l1 l2 σ) : MI l yX8_refuseAt cX8_refuseAt 3 ((some FieldType.boolean)) rm_X8_refuseAt G D tc b0 [rv b0 l0, .int l1, .int l2] σ Qx :=
  x_entry (y := yX8_refuseAt) [.inr (.inr l0), .inl l1, .inl l2] 0 (by decide) (Nat.le_of_ble_eq_true rfl) (fun p e s m args below meth c ls C hr hW hl => t_X8_refuseAt_0 C hr va_S.rf hW (hl.keep [true, true, true] rfl) h)
/-! X8_refuse -/
set_option maxRecDepth 20000 in
set_option maxHeartbeats 4000000 in
theorem t_X8_refuse_0 {p : Program} {l : Launch} {e : Env} {s : State} {m : MethodId} {args : Array Value} {below : List Frame} {meth : Method} {c : Code} {H : Heap} {locs : List Loc} {D : va_G} {tc : Nat → ClassId} {b0 : Nat} {ls : Array Slot} {G : Lay} {Qx : Int32 → Mem → Prop} {l0 : Nat} {l1 : Int32}  {σ : Mem} (C : Cx p s m args meth c cX8_refuse RX8 2 D tc b0) (hr : meth.sig.returnType = (some FieldType.boolean)) (hS : va_S (AA b0) s.heap H locs) (hW : Wd G D tc b0 σ H) (hl : hL b0 ls 2 [some (.inr (.inr l0)), some (.inl l1)]) (h : X_X8_refuse_0 G Qx l0 l1  σ) : W p l e rm_X8_refuse s m args below meth c H locs 0 0 (MQ below (va_Qi Qx (fun u t => Pw G D tc b0 u t) (AA b0)) args s 0 0 (AA b0)) (F0 m 0 ls []) := by
  have hx := C.1
  have hb := C.2.1
  unfold X_X8_refuse_0 at h
  refine x_aload_n C hl dX8_refuse_0 rfl ?_
  refine x_iload_n C hl dX8_refuse_1 rfl ?_
  refine x_aload_n C hl dX8_refuse_2 rfl ?_
  have t1 := h.1
  replace h := h.2
  refine x_get C hW (t := 8) (k := 1) t1 kl_8 (by decide) fl_X8_15 (v := rv b0 (mR σ l0 1)) rfl dX8_refuse_3 ?_
  refine x_aload_n C hl dX8_refuse_6 rfl ?_
  refine x_get C hW (t := 8) (k := 4) t1 kl_8 (by decide) fl_X8_29 (v := .int (mI σ l0 4)) rfl dX8_refuse_7 ?_
  have t2 := h.1
  replace h := h.2
  have v3 := h.1
  replace h := h.2
  refine x_iald C hW t2 v3 dX8_refuse_10 ?_
  refine y_i (x_run (As := [.int l1, .int (mI σ (mR σ l0 1) (mI σ l0 4).toNatClampNeg)]) C hW hS (T_X8_refuseAt l l0 l1 (mI σ (mR σ l0 1) (mI σ l0 4).toNatClampNeg) σ _ h) t1 kl_8 (CW.of yv_X8_refuseAt ml_X8_83) ⟨rfl, rfl, ⟨by decide, by decide⟩, by decide, by decide⟩ rfl hl.1 rfl (by decide) dX8_refuse_11) hS (fun w5 s4 H locs h hW hS => ?_)
  exact r_z C hr hW hS h.1 h.2 dX8_refuse_14
theorem T_X8_refuse (l : Launch) {G : Lay} {D : va_G} {tc : Nat → ClassId} {b0 : Nat} (l0 : Nat) (l1 : Int32) (σ : Mem) (Qx : Int32 → Mem → Prop) (h : X_X8_refuse G Qx l0 l1 σ) : MI l yX8_refuse cX8_refuse 2 ((some FieldType.boolean)) rm_X8_refuse G D tc b0 [rv b0 l0, .int l1] σ Qx :=
  x_entry (y := yX8_refuse) [.inr (.inr l0), .inl l1] 0 (by decide) (Nat.le_of_ble_eq_true rfl) (fun p e s m args below meth c ls C hr hW hl => t_X8_refuse_0 C hr va_S.rf hW (hl.keep [true, true] rfl) h)
/-! X8_pass -/
set_option maxRecDepth 20000 in
set_option maxHeartbeats 4000000 in
theorem t_X8_pass_21 {p : Program} {l : Launch} {e : Env} {s : State} {m : MethodId} {args : Array Value} {below : List Frame} {meth : Method} {c : Code} {H : Heap} {locs : List Loc} {D : va_G} {tc : Nat → ClassId} {b0 : Nat} {ls : Array Slot} {G : Lay} {Qx : Mem → Prop}   {σ : Mem} (C : Cx p s m args meth c cX8_pass RX8 1 D tc b0) (hr : meth.sig.returnType = (none : Option FieldType)) (hS : va_S (AA b0) s.heap H locs) (hW : Wd G D tc b0 σ H) (hl : hL b0 ls 1 [none]) (h : X_X8_pass_21 G Qx   σ) : W p l e rm_X8_pass s m args below meth c H locs 0 0 (MQ below (va_Qv Qx (fun u t => Pw G D tc b0 u t) (AA b0)) args s 0 0 (AA b0)) (F0 m 21 ls []) := by
  have hx := C.1
  have hb := C.2.1
  unfold X_X8_pass_21 at h
  exact r_v C hr hW hS h dX8_pass_21
set_option maxRecDepth 20000 in
set_option maxHeartbeats 4000000 in
theorem t_X8_pass_0 {p : Program} {l : Launch} {e : Env} {s : State} {m : MethodId} {args : Array Value} {below : List Frame} {meth : Method} {c : Code} {H : Heap} {locs : List Loc} {D : va_G} {tc : Nat → ClassId} {b0 : Nat} {ls : Array Slot} {G : Lay} {Qx : Mem → Prop} {l0 : Nat}  {σ : Mem} (C : Cx p s m args meth c cX8_pass RX8 1 D tc b0) (hr : meth.sig.returnType = (none : Option FieldType)) (hS : va_S (AA b0) s.heap H locs) (hW : Wd G D tc b0 σ H) (hl : hL b0 ls 1 [some (.inr (.inr l0))]) (h : X_X8_pass_0 G Qx l0  σ) : W p l e rm_X8_pass s m args below meth c H locs 0 0 (MQ below (va_Qv Qx (fun u t => Pw G D tc b0 u t) (AA b0)) args s 0 0 (AA b0)) (F0 m 0 ls []) := by
  have hx := C.1
  have hb := C.2.1
  unfold X_X8_pass_0 at h
  refine x_aload_n C hl dX8_pass_0 rfl ?_
  have t1 := h.1
  replace h := h.2
  refine x_get C hW (t := 8) (k := 4) t1 kl_8 (by decide) fl_X8_29 (v := .int (mI σ l0 4)) rfl dX8_pass_1 ?_
  refine x_aload_n C hl dX8_pass_4 rfl ?_
  refine x_get C hW (t := 8) (k := 3) t1 kl_8 (by decide) fl_X8_32 (v := .int (mI σ l0 3)) rfl dX8_pass_5 ?_
  refine lv_icmp_ge hx hb dX8_pass_8 (tgt := 21) rfl (fun hc => ?_) (fun hc => ?_)
  · replace h := h.1 hc
    exact t_X8_pass_21 C hr hS hW (hl.keep [false] rfl) h
  · replace h := h.2 hc
    refine x_aload_n C hl dX8_pass_11 rfl ?_
    refine lv_dup hx hb dX8_pass_12 (rv_cat _ _) ?_
    refine x_get C hW (t := 8) (k := 4) t1 kl_8 (by decide) fl_X8_29 (v := .int (mI σ l0 4)) rfl dX8_pass_13 ?_
    refine lv_iconst (v := (1 : Int32)) hx hb dX8_pass_16 (by decide) ?_
    refine lv_iadd hx hb dX8_pass_17 ?_
    refine x_putI C hW hS (t := 8) (k := 4) t1 kl_8 (by decide) fl_X8_29 rfl rfl rfl rfl dX8_pass_18 (fun H locs hW hS => ?_)
    obtain ⟨s2, e_s2⟩ : ∃ z : Mem, z = (sI σ l0 4 ((mI σ l0 4) + (1 : Int32))) := ⟨_, rfl⟩
    replace h := h s2 e_s2
    replace hW : Wd G D tc b0 s2 H := by rw [e_s2]; exact hW
    exact t_X8_pass_21 C hr hS hW (hl.keep [false] rfl) h
theorem T_X8_pass (l : Launch) {G : Lay} {D : va_G} {tc : Nat → ClassId} {b0 : Nat} (l0 : Nat) (σ : Mem) (Qx : Mem → Prop) (h : X_X8_pass G Qx l0 σ) : MV l yX8_pass cX8_pass 1 ((none : Option FieldType)) rm_X8_pass G D tc b0 [rv b0 l0] σ Qx :=
  x_entry (y := yX8_pass) [.inr (.inr l0)] 0 (by decide) (Nat.le_of_ble_eq_true rfl) (fun p e s m args below meth c ls C hr hW hl => t_X8_pass_0 C hr va_S.rf hW (hl.keep [true] rfl) h)
/-! X8_isAt -/
set_option maxRecDepth 20000 in
set_option maxHeartbeats 4000000 in
theorem t_X8_isAt_45 {p : Program} {l : Launch} {e : Env} {s : State} {m : MethodId} {args : Array Value} {below : List Frame} {meth : Method} {c : Code} {H : Heap} {locs : List Loc} {D : va_G} {tc : Nat → ClassId} {b0 : Nat} {ls : Array Slot} {G : Lay} {Qx : Int32 → Mem → Prop}  {k0 : Int32} {σ : Mem} (C : Cx p s m args meth c cX8_isAt RX8 3 D tc b0) (hr : meth.sig.returnType = (some FieldType.boolean)) (hS : va_S (AA b0) s.heap H locs) (hW : Wd G D tc b0 σ H) (hl : hL b0 ls 3 [none, none, none]) (h : X_X8_isAt_45 G Qx  k0 σ) : W p l e rm_X8_isAt s m args below meth c H locs 0 0 (MQ below (va_Qi Qx (fun u t => Pw G D tc b0 u t) (AA b0)) args s 0 0 (AA b0)) (F0 m 45 ls [.int k0]) := by
  have hx := C.1
  have hb := C.2.1
  unfold X_X8_isAt_45 at h
  exact r_z C hr hW hS h.1 h.2 dX8_isAt_45
set_option maxRecDepth 20000 in
set_option maxHeartbeats 4000000 in
theorem t_X8_isAt_44 {p : Program} {l : Launch} {e : Env} {s : State} {m : MethodId} {args : Array Value} {below : List Frame} {meth : Method} {c : Code} {H : Heap} {locs : List Loc} {D : va_G} {tc : Nat → ClassId} {b0 : Nat} {ls : Array Slot} {G : Lay} {Qx : Int32 → Mem → Prop}   {σ : Mem} (C : Cx p s m args meth c cX8_isAt RX8 3 D tc b0) (hr : meth.sig.returnType = (some FieldType.boolean)) (hS : va_S (AA b0) s.heap H locs) (hW : Wd G D tc b0 σ H) (hl : hL b0 ls 3 [none, none, none]) (h : X_X8_isAt_44 G Qx   σ) : W p l e rm_X8_isAt s m args below meth c H locs 0 0 (MQ below (va_Qi Qx (fun u t => Pw G D tc b0 u t) (AA b0)) args s 0 0 (AA b0)) (F0 m 44 ls []) := by
  have hx := C.1
  have hb := C.2.1
  unfold X_X8_isAt_44 at h
  refine lv_iconst (v := (0 : Int32)) hx hb dX8_isAt_44 (by decide) ?_
  exact t_X8_isAt_45 C hr hS hW (hl.keep [false, false, false] rfl) h
set_option maxRecDepth 20000 in
set_option maxHeartbeats 4000000 in
theorem t_X8_isAt_26 {p : Program} {l : Launch} {e : Env} {s : State} {m : MethodId} {args : Array Value} {below : List Frame} {meth : Method} {c : Code} {H : Heap} {locs : List Loc} {D : va_G} {tc : Nat → ClassId} {b0 : Nat} {ls : Array Slot} {G : Lay} {Qx : Int32 → Mem → Prop} {l0 : Nat} {l1 : Int64}  {σ : Mem} (C : Cx p s m args meth c cX8_isAt RX8 3 D tc b0) (hr : meth.sig.returnType = (some FieldType.boolean)) (hS : va_S (AA b0) s.heap H locs) (hW : Wd G D tc b0 σ H) (hl : hL b0 ls 3 [some (.inr (.inr l0)), some (.inr (.inl l1)), none]) (h : X_X8_isAt_26 G Qx l0 l1  σ) : W p l e rm_X8_isAt s m args below meth c H locs 0 0 (MQ below (va_Qi Qx (fun u t => Pw G D tc b0 u t) (AA b0)) args s 0 0 (AA b0)) (F0 m 26 ls []) := by
  have hx := C.1
  have hb := C.2.1
  unfold X_X8_isAt_26 at h
  refine x_aload_n C hl dX8_isAt_26 rfl ?_
  have t1 := h.1
  replace h := h.2
  refine x_get C hW (t := 8) (k := 2) t1 kl_8 (by decide) fl_X8_18 (v := rv b0 (mR σ l0 2)) rfl dX8_isAt_27 ?_
  refine x_aload_n C hl dX8_isAt_30 rfl ?_
  refine x_get C hW (t := 8) (k := 4) t1 kl_8 (by decide) fl_X8_29 (v := .int (mI σ l0 4)) rfl dX8_isAt_31 ?_
  have t2 := h.1
  replace h := h.2
  have v3 := h.1
  replace h := h.2
  refine x_lald C hW t2 v3 dX8_isAt_34 ?_
  refine x_lload_n C hl dX8_isAt_35 rfl ?_
  refine W.lcmp hx hb dX8_isAt_36 ?_
  refine lv_if_ne hx hb dX8_isAt_37 (tgt := 44) rfl (fun hc => ?_) (fun hc => ?_)
  · replace h := h.2 hc
    exact t_X8_isAt_44 C hr hS hW (hl.keep [false, false, false] rfl) h
  · replace h := h.1 hc
    refine lv_iconst (v := (1 : Int32)) hx hb dX8_isAt_40 (by decide) ?_
    refine lv_goto hx hb dX8_isAt_41 (tgt := 45) rfl ?_
    exact t_X8_isAt_45 C hr hS hW (hl.keep [false, false, false] rfl) h
set_option maxRecDepth 20000 in
set_option maxHeartbeats 4000000 in
theorem t_X8_isAt_0 {p : Program} {l : Launch} {e : Env} {s : State} {m : MethodId} {args : Array Value} {below : List Frame} {meth : Method} {c : Code} {H : Heap} {locs : List Loc} {D : va_G} {tc : Nat → ClassId} {b0 : Nat} {ls : Array Slot} {G : Lay} {Qx : Int32 → Mem → Prop} {l0 : Nat} {l1 : Int64}  {σ : Mem} (C : Cx p s m args meth c cX8_isAt RX8 3 D tc b0) (hr : meth.sig.returnType = (some FieldType.boolean)) (hS : va_S (AA b0) s.heap H locs) (hW : Wd G D tc b0 σ H) (hl : hL b0 ls 3 [some (.inr (.inr l0)), some (.inr (.inl l1)), none]) (h : X_X8_isAt_0 G Qx l0 l1  σ) : W p l e rm_X8_isAt s m args below meth c H locs 0 0 (MQ below (va_Qi Qx (fun u t => Pw G D tc b0 u t) (AA b0)) args s 0 0 (AA b0)) (F0 m 0 ls []) := by
  have hx := C.1
  have hb := C.2.1
  unfold X_X8_isAt_0 at h
  refine x_aload_n C hl dX8_isAt_0 rfl ?_
  have t1 := h.1
  replace h := h.2
  refine x_get C hW (t := 8) (k := 0) t1 kl_8 (by decide) fl_X8_9 (v := rv b0 (mR σ l0 0)) rfl dX8_isAt_1 ?_
  refine x_aload_n C hl dX8_isAt_4 rfl ?_
  refine x_get C hW (t := 8) (k := 4) t1 kl_8 (by decide) fl_X8_29 (v := .int (mI σ l0 4)) rfl dX8_isAt_5 ?_
  have t2 := h.1
  replace h := h.2
  have v3 := h.1
  replace h := h.2
  refine x_iald C hW t2 v3 dX8_isAt_8 ?_
  refine lv_iconst (v := (3 : Int32)) hx hb dX8_isAt_9 (by decide) ?_
  refine lv_icmp_eq hx hb dX8_isAt_10 (tgt := 26) rfl (fun hc => ?_) (fun hc => ?_)
  · replace h := h.1 hc
    exact t_X8_isAt_26 C hr hS hW (hl.keep [true, true, false] rfl) h
  · replace h := h.2 hc
    refine x_aload_n C hl dX8_isAt_13 rfl ?_
    refine x_get C hW (t := 8) (k := 0) t1 kl_8 (by decide) fl_X8_9 (v := rv b0 (mR σ l0 0)) rfl dX8_isAt_14 ?_
    refine x_aload_n C hl dX8_isAt_17 rfl ?_
    refine x_get C hW (t := 8) (k := 4) t1 kl_8 (by decide) fl_X8_29 (v := .int (mI σ l0 4)) rfl dX8_isAt_18 ?_
    refine x_iald C hW t2 v3 dX8_isAt_21 ?_
    refine lv_iconst (v := (5 : Int32)) hx hb dX8_isAt_22 (by decide) ?_
    refine lv_icmp_ne hx hb dX8_isAt_23 (tgt := 44) rfl (fun hc => ?_) (fun hc => ?_)
    · replace h := h.2 hc
      exact t_X8_isAt_44 C hr hS hW (hl.keep [false, false, false] rfl) h
    · replace h := h.1 hc
      exact t_X8_isAt_26 C hr hS hW (hl.keep [true, true, false] rfl) h
theorem T_X8_isAt (l : Launch) {G : Lay} {D : va_G} {tc : Nat → ClassId} {b0 : Nat} (l0 : Nat) (l1 : Int64) (σ : Mem) (Qx : Int32 → Mem → Prop) (h : X_X8_isAt G Qx l0 l1 σ) : MI l yX8_isAt cX8_isAt 3 ((some FieldType.boolean)) rm_X8_isAt G D tc b0 [rv b0 l0, .long l1] σ Qx :=
  x_entry (y := yX8_isAt) [.inr (.inr l0), .inr (.inl l1)] 0 (by decide) (Nat.le_of_ble_eq_true rfl) (fun p e s m args below meth c ls C hr hW hl => t_X8_isAt_0 C hr va_S.rf hW (hl.keep [true, true, false] rfl) h)
/-! X0_wayNow -/
set_option maxRecDepth 20000 in
set_option maxHeartbeats 4000000 in
theorem t_X0_wayNow_48 {p : Program} {l : Launch} {e : Env} {s : State} {m : MethodId} {args : Array Value} {below : List Frame} {meth : Method} {c : Code} {H : Heap} {locs : List Loc} {D : va_G} {tc : Nat → ClassId} {b0 : Nat} {ls : Array Slot} {G : Lay} {Qx : Int32 → Mem → Prop}  {k0 : Int32} {σ : Mem} (C : Cx p s m args meth c cX0_wayNow RX0 1 D tc b0) (hr : meth.sig.returnType = (some FieldType.int)) (hS : va_S (AA b0) s.heap H locs) (hW : Wd G D tc b0 σ H) (hl : hL b0 ls 1 [none]) (h : X_X0_wayNow_48 G Qx  k0 σ) : W p l e rm_X0_wayNow s m args below meth c H locs 0 0 (MQ below (va_Qi Qx (fun u t => Pw G D tc b0 u t) (AA b0)) args s 0 0 (AA b0)) (F0 m 48 ls [.int k0]) := by
  have hx := C.1
  have hb := C.2.1
  unfold X_X0_wayNow_48 at h
  exact r_i C hr hW hS h dX0_wayNow_48
set_option maxRecDepth 20000 in
set_option maxHeartbeats 4000000 in
theorem t_X0_wayNow_0 {p : Program} {l : Launch} {e : Env} {s : State} {m : MethodId} {args : Array Value} {below : List Frame} {meth : Method} {c : Code} {H : Heap} {locs : List Loc} {D : va_G} {tc : Nat → ClassId} {b0 : Nat} {ls : Array Slot} {G : Lay} {Qx : Int32 → Mem → Prop} {l0 : Nat}  {σ : Mem} (C : Cx p s m args meth c cX0_wayNow RX0 1 D tc b0) (hr : meth.sig.returnType = (some FieldType.int)) (hS : va_S (AA b0) s.heap H locs) (hW : Wd G D tc b0 σ H) (hl : hL b0 ls 1 [some (.inr (.inr l0))]) (h : X_X0_wayNow_0 G Qx l0  σ) : W p l e rm_X0_wayNow s m args below meth c H locs 0 0 (MQ below (va_Qi Qx (fun u t => Pw G D tc b0 u t) (AA b0)) args s 0 0 (AA b0)) (F0 m 0 ls []) := by
  have hx := C.1
  have hb := C.2.1
  unfold X_X0_wayNow_0 at h
  refine x_aload_n C hl dX0_wayNow_0 rfl ?_
  have t1 := h.1
  replace h := h.2
  refine x_get C hW (t := 0) (k := 0) t1 kl_0 (by decide) fl_X0_9 (v := rv b0 (mR σ l0 0)) rfl dX0_wayNow_1 ?_
  refine lv_ldc2 (own := RX0) (v := (7302757 : Int64)) hx hb C.2.2.2.1 (C.2.2.2.2.1 _ (gc4 6 rfl rfl)) dX0_wayNow_4 ?_
  have t2 := h.1
  replace h := h.2
  refine y_i (x_run (As := [.long (7302757 : Int64)]) C hW hS (T_X8_isAt l (mR σ l0 0) (7302757 : Int64) σ _ h) t2 kl_8 (CW.of yv_X8_isAt ml_X0_101) ⟨rfl, rfl, ⟨by decide, by decide⟩, by decide, by decide⟩ rfl hl.1 rfl (by decide) dX0_wayNow_7) hS (fun w4 s3 H locs h hW hS => ?_)
  refine lv_if_eq hx hb dX0_wayNow_10 (tgt := 15) rfl (fun hc => ?_) (fun hc => ?_)
  · replace h := h.1 hc
    refine x_aload_n C hl dX0_wayNow_15 rfl ?_
    refine x_get C hW (t := 0) (k := 0) t1 kl_0 (by decide) fl_X0_9 (v := rv b0 (mR s3 l0 0)) rfl dX0_wayNow_16 ?_
    refine lv_ldc2 (own := RX0) (v := (117026742756708 : Int64)) hx hb C.2.2.2.1 (C.2.2.2.2.1 _ (gc4 11 rfl rfl)) dX0_wayNow_19 ?_
    have t5 := h.1
    replace h := h.2
    refine y_i (x_run (As := [.long (117026742756708 : Int64)]) C hW hS (T_X8_isAt l (mR s3 l0 0) (117026742756708 : Int64) s3 _ h) t5 kl_8 (CW.of yv_X8_isAt ml_X0_101) ⟨rfl, rfl, ⟨by decide, by decide⟩, by decide, by decide⟩ rfl hl.1 rfl (by decide) dX0_wayNow_22) hS (fun w7 s6 H locs h hW hS => ?_)
    refine lv_if_eq hx hb dX0_wayNow_25 (tgt := 30) rfl (fun hc => ?_) (fun hc => ?_)
    · replace h := h.1 hc
      refine x_aload_n C hl dX0_wayNow_30 rfl ?_
      refine x_get C hW (t := 0) (k := 0) t1 kl_0 (by decide) fl_X0_9 (v := rv b0 (mR s6 l0 0)) rfl dX0_wayNow_31 ?_
      refine lv_ldc2 (own := RX0) (v := (7305070 : Int64)) hx hb C.2.2.2.1 (C.2.2.2.2.1 _ (gc4 12 rfl rfl)) dX0_wayNow_34 ?_
      have t8 := h.1
      replace h := h.2
      refine y_i (x_run (As := [.long (7305070 : Int64)]) C hW hS (T_X8_isAt l (mR s6 l0 0) (7305070 : Int64) s6 _ h) t8 kl_8 (CW.of yv_X8_isAt ml_X0_101) ⟨rfl, rfl, ⟨by decide, by decide⟩, by decide, by decide⟩ rfl hl.1 rfl (by decide) dX0_wayNow_37) hS (fun w10 s9 H locs h hW hS => ?_)
      refine lv_if_eq hx hb dX0_wayNow_40 (tgt := 47) rfl (fun hc => ?_) (fun hc => ?_)
      · replace h := h.1 hc
        refine lv_iconst (v := (-1 : Int32)) hx hb dX0_wayNow_47 (by decide) ?_
        exact t_X0_wayNow_48 C hr hS hW (hl.keep [false] rfl) h
      · replace h := h.2 hc
        refine lv_iconst (v := (2 : Int32)) hx hb dX0_wayNow_43 (by decide) ?_
        refine lv_goto hx hb dX0_wayNow_44 (tgt := 48) rfl ?_
        exact t_X0_wayNow_48 C hr hS hW (hl.keep [false] rfl) h
    · replace h := h.2 hc
      refine lv_iconst (v := (1 : Int32)) hx hb dX0_wayNow_28 (by decide) ?_
      exact r_i C hr hW hS h dX0_wayNow_29
  · replace h := h.2 hc
    refine lv_iconst (v := (0 : Int32)) hx hb dX0_wayNow_13 (by decide) ?_
    exact r_i C hr hW hS h dX0_wayNow_14
theorem T_X0_wayNow (l : Launch) {G : Lay} {D : va_G} {tc : Nat → ClassId} {b0 : Nat} (l0 : Nat) (σ : Mem) (Qx : Int32 → Mem → Prop) (h : X_X0_wayNow G Qx l0 σ) : MI l yX0_wayNow cX0_wayNow 1 ((some FieldType.int)) rm_X0_wayNow G D tc b0 [rv b0 l0] σ Qx :=
  x_entry (y := yX0_wayNow) [.inr (.inr l0)] 0 (by decide) (Nat.le_of_ble_eq_true rfl) (fun p e s m args below meth c ls C hr hW hl => t_X0_wayNow_0 C hr va_S.rf hW (hl.keep [true] rfl) h)
/-! X1_begin -/
set_option maxRecDepth 20000 in
set_option maxHeartbeats 4000000 in
theorem t_X1_begin_0 {p : Program} {l : Launch} {e : Env} {s : State} {m : MethodId} {args : Array Value} {below : List Frame} {meth : Method} {c : Code} {H : Heap} {locs : List Loc} {D : va_G} {tc : Nat → ClassId} {b0 : Nat} {ls : Array Slot} {G : Lay} {Qx : Mem → Prop} {l0 : Nat} {l1 : Int64} {l3 : Int32} {l4 : Int32}  {σ : Mem} (C : Cx p s m args meth c cX1_begin RX1 5 D tc b0) (hr : meth.sig.returnType = (none : Option FieldType)) (hS : va_S (AA b0) s.heap H locs) (hW : Wd G D tc b0 σ H) (hl : hL b0 ls 5 [some (.inr (.inr l0)), some (.inr (.inl l1)), none, some (.inl l3), some (.inl l4)]) (h : X_X1_begin_0 G Qx l0 l1 l3 l4  σ) : W p l e rm_X1_begin s m args below meth c H locs 0 0 (MQ below (va_Qv Qx (fun u t => Pw G D tc b0 u t) (AA b0)) args s 0 0 (AA b0)) (F0 m 0 ls []) := by
  have hx := C.1
  have hb := C.2.1
  unfold X_X1_begin_0 at h
  refine x_aload_n C hl dX1_begin_0 rfl ?_
  refine x_lload_n C hl dX1_begin_1 rfl ?_
  have t1 := h.1
  replace h := h.2
  refine x_putJ C hW hS (t := 1) (k := 0) t1 kl_1 (by decide) fl_X1_28 rfl rfl rfl rfl dX1_begin_2 (fun H locs hW hS => ?_)
  obtain ⟨s2, e_s2⟩ : ∃ z : Mem, z = (sJ σ l0 0 l1) := ⟨_, rfl⟩
  replace h := h s2 e_s2
  replace hW : Wd G D tc b0 s2 H := by rw [e_s2]; exact hW
  refine x_aload_n C hl dX1_begin_5 rfl ?_
  refine lv_iconst (v := (-1 : Int32)) hx hb dX1_begin_6 (by decide) ?_
  refine x_putI C hW hS (t := 1) (k := 1) t1 kl_1 (by decide) fl_X1_32 rfl rfl rfl rfl dX1_begin_7 (fun H locs hW hS => ?_)
  obtain ⟨s3, e_s3⟩ : ∃ z : Mem, z = (sI s2 l0 1 (-1 : Int32)) := ⟨_, rfl⟩
  replace h := h s3 e_s3
  replace hW : Wd G D tc b0 s3 H := by rw [e_s3]; exact hW
  refine x_aload_n C hl dX1_begin_10 rfl ?_
  refine x_iload_n C hl dX1_begin_11 rfl ?_
  refine x_putI C hW hS (t := 1) (k := 2) t1 kl_1 (by decide) fl_X1_36 rfl rfl rfl rfl dX1_begin_12 (fun H locs hW hS => ?_)
  obtain ⟨s4, e_s4⟩ : ∃ z : Mem, z = (sI s3 l0 2 l3) := ⟨_, rfl⟩
  replace h := h s4 e_s4
  replace hW : Wd G D tc b0 s4 H := by rw [e_s4]; exact hW
  refine x_aload_n C hl dX1_begin_15 rfl ?_
  refine x_iload C hl dX1_begin_16 rfl ?_
  refine x_putI C hW hS (t := 1) (k := 3) t1 kl_1 (by decide) fl_X1_39 rfl rfl rfl rfl dX1_begin_18 (fun H locs hW hS => ?_)
  obtain ⟨s5, e_s5⟩ : ∃ z : Mem, z = (sI s4 l0 3 l4) := ⟨_, rfl⟩
  replace h := h s5 e_s5
  replace hW : Wd G D tc b0 s5 H := by rw [e_s5]; exact hW
  refine x_aload_n C hl dX1_begin_21 rfl ?_
  refine lv_iconst (v := (0 : Int32)) hx hb dX1_begin_22 (by decide) ?_
  refine x_putI C hW hS (t := 1) (k := 4) t1 kl_1 (by decide) fl_X1_42 rfl rfl rfl rfl dX1_begin_23 (fun H locs hW hS => ?_)
  obtain ⟨s6, e_s6⟩ : ∃ z : Mem, z = (sI s5 l0 4 (0 : Int32)) := ⟨_, rfl⟩
  replace h := h s6 e_s6
  replace hW : Wd G D tc b0 s6 H := by rw [e_s6]; exact hW
  refine x_aload_n C hl dX1_begin_26 rfl ?_
  refine lv_iconst (v := (0 : Int32)) hx hb dX1_begin_27 (by decide) ?_
  refine x_putI C hW hS (t := 1) (k := 6) t1 kl_1 (by decide) fl_X1_45 rfl rfl rfl rfl dX1_begin_28 (fun H locs hW hS => ?_)
  obtain ⟨s7, e_s7⟩ : ∃ z : Mem, z = (sI s6 l0 6 (0 : Int32)) := ⟨_, rfl⟩
  replace h := h s7 e_s7
  replace hW : Wd G D tc b0 s7 H := by rw [e_s7]; exact hW
  exact r_v C hr hW hS h dX1_begin_31
theorem T_X1_begin (l : Launch) {G : Lay} {D : va_G} {tc : Nat → ClassId} {b0 : Nat} (l0 : Nat) (l1 : Int64) (l3 : Int32) (l4 : Int32) (σ : Mem) (Qx : Mem → Prop) (h : X_X1_begin G Qx l0 l1 l3 l4 σ) : MV l yX1_begin cX1_begin 5 ((none : Option FieldType)) rm_X1_begin G D tc b0 [rv b0 l0, .long l1, .int l3, .int l4] σ Qx :=
  x_entry (y := yX1_begin) [.inr (.inr l0), .inr (.inl l1), .inl l3, .inl l4] 0 (by decide) (Nat.le_of_ble_eq_true rfl) (fun p e s m args below meth c ls C hr hW hl => t_X1_begin_0 C hr va_S.rf hW (hl.keep [true, true, false, true, true] rfl) h)
/-! X6_kindAt -/
set_option maxRecDepth 20000 in
set_option maxHeartbeats 4000000 in
theorem t_X6_kindAt_22 {p : Program} {l : Launch} {e : Env} {s : State} {m : MethodId} {args : Array Value} {below : List Frame} {meth : Method} {c : Code} {H : Heap} {locs : List Loc} {D : va_G} {tc : Nat → ClassId} {b0 : Nat} {ls : Array Slot} {G : Lay} {Qx : Nat → Mem → Prop}  {k0 : Nat} {σ : Mem} (C : Cx p s m args meth c cX6_kindAt RX6 2 D tc b0) (hr : meth.sig.returnType = (some (FieldType.object "BeeRegister$Kind"))) (hS : va_S (AA b0) s.heap H locs) (hW : Wd G D tc b0 σ H) (hl : hL b0 ls 2 [none, none]) (h : X_X6_kindAt_22 G Qx  k0 σ) : W p l e rm_X6_kindAt s m args below meth c H locs 0 0 (MQ below (va_Qq (fun o u => ∃ r, o = ro b0 r ∧ Qx r u) (fun u t => Pw G D tc b0 u t) (AA b0)) args s 0 0 (AA b0)) (F0 m 22 ls [rv b0 k0]) := by
  have hx := C.1
  have hb := C.2.1
  unfold X_X6_kindAt_22 at h
  exact r_r C hr hW hS h dX6_kindAt_22
set_option maxRecDepth 20000 in
set_option maxHeartbeats 4000000 in
theorem t_X6_kindAt_12 {p : Program} {l : Launch} {e : Env} {s : State} {m : MethodId} {args : Array Value} {below : List Frame} {meth : Method} {c : Code} {H : Heap} {locs : List Loc} {D : va_G} {tc : Nat → ClassId} {b0 : Nat} {ls : Array Slot} {G : Lay} {Qx : Nat → Mem → Prop}   {σ : Mem} (C : Cx p s m args meth c cX6_kindAt RX6 2 D tc b0) (hr : meth.sig.returnType = (some (FieldType.object "BeeRegister$Kind"))) (hS : va_S (AA b0) s.heap H locs) (hW : Wd G D tc b0 σ H) (hl : hL b0 ls 2 [none, none]) (h : X_X6_kindAt_12 G Qx   σ) : W p l e rm_X6_kindAt s m args below meth c H locs 0 0 (MQ below (va_Qq (fun o u => ∃ r, o = ro b0 r ∧ Qx r u) (fun u t => Pw G D tc b0 u t) (AA b0)) args s 0 0 (AA b0)) (F0 m 12 ls []) := by
  have hx := C.1
  have hb := C.2.1
  unfold X_X6_kindAt_12 at h
  refine x_null C dX6_kindAt_12 ?_
  refine lv_goto hx hb dX6_kindAt_13 (tgt := 22) rfl ?_
  exact t_X6_kindAt_22 C hr hS hW (hl.keep [false, false] rfl) h
set_option maxRecDepth 20000 in
set_option maxHeartbeats 4000000 in
theorem t_X6_kindAt_0 {p : Program} {l : Launch} {e : Env} {s : State} {m : MethodId} {args : Array Value} {below : List Frame} {meth : Method} {c : Code} {H : Heap} {locs : List Loc} {D : va_G} {tc : Nat → ClassId} {b0 : Nat} {ls : Array Slot} {G : Lay} {Qx : Nat → Mem → Prop} {l0 : Nat} {l1 : Int32}  {σ : Mem} (C : Cx p s m args meth c cX6_kindAt RX6 2 D tc b0) (hr : meth.sig.returnType = (some (FieldType.object "BeeRegister$Kind"))) (hS : va_S (AA b0) s.heap H locs) (hW : Wd G D tc b0 σ H) (hl : hL b0 ls 2 [some (.inr (.inr l0)), some (.inl l1)]) (h : X_X6_kindAt_0 G Qx l0 l1  σ) : W p l e rm_X6_kindAt s m args below meth c H locs 0 0 (MQ below (va_Qq (fun o u => ∃ r, o = ro b0 r ∧ Qx r u) (fun u t => Pw G D tc b0 u t) (AA b0)) args s 0 0 (AA b0)) (F0 m 0 ls []) := by
  have hx := C.1
  have hb := C.2.1
  unfold X_X6_kindAt_0 at h
  refine x_iload_n C hl dX6_kindAt_0 rfl ?_
  refine lv_if_lt hx hb dX6_kindAt_1 (tgt := 12) rfl (fun hc => ?_) (fun hc => ?_)
  · replace h := h.1 hc
    exact t_X6_kindAt_12 C hr hS hW (hl.keep [false, false] rfl) h
  · replace h := h.2 hc
    refine x_iload_n C hl dX6_kindAt_4 rfl ?_
    refine x_aload_n C hl dX6_kindAt_5 rfl ?_
    have t1 := h.1
    replace h := h.2
    refine x_get C hW (t := 6) (k := 0) t1 kl_6 (by decide) fl_X6_29 (v := .int (mI σ l0 0)) rfl dX6_kindAt_6 ?_
    refine lv_icmp_lt hx hb dX6_kindAt_9 (tgt := 16) rfl (fun hc => ?_) (fun hc => ?_)
    · replace h := h.1 hc
      refine x_aload_n C hl dX6_kindAt_16 rfl ?_
      refine x_get C hW (t := 6) (k := 1) t1 kl_6 (by decide) fl_X6_11 (v := rv b0 (mR σ l0 1)) rfl dX6_kindAt_17 ?_
      refine x_iload_n C hl dX6_kindAt_20 rfl ?_
      have t2 := h.1
      replace h := h.2
      have v3 := h.1
      replace h := h.2
      refine x_aald C hW (t := 103) (t0 := 4) t2 (by decide) rfl v3 dX6_kindAt_21 ?_
      exact t_X6_kindAt_22 C hr hS hW (hl.keep [false, false] rfl) h
    · replace h := h.2 hc
      exact t_X6_kindAt_12 C hr hS hW (hl.keep [false, false] rfl) h
theorem T_X6_kindAt (l : Launch) {G : Lay} {D : va_G} {tc : Nat → ClassId} {b0 : Nat} (l0 : Nat) (l1 : Int32) (σ : Mem) (Qx : Nat → Mem → Prop) (h : X_X6_kindAt G Qx l0 l1 σ) : MR l yX6_kindAt cX6_kindAt 2 ((some (FieldType.object "BeeRegister$Kind"))) rm_X6_kindAt G D tc b0 [rv b0 l0, .int l1] σ Qx :=
  x_entry (y := yX6_kindAt) [.inr (.inr l0), .inl l1] 0 (by decide) (Nat.le_of_ble_eq_true rfl) (fun p e s m args below meth c ls C hr hW hl => t_X6_kindAt_0 C hr va_S.rf hW (hl.keep [true, true] rfl) h)
/-! X6_addClass -/
set_option maxRecDepth 20000 in
set_option maxHeartbeats 4000000 in
theorem t_X6_addClass_106 {p : Program} {l : Launch} {e : Env} {s : State} {m : MethodId} {args : Array Value} {below : List Frame} {meth : Method} {c : Code} {H : Heap} {locs : List Loc} {D : va_G} {tc : Nat → ClassId} {b0 : Nat} {ls : Array Slot} {G : Lay} {Qx : Nat → Mem → Prop} {l0 : Nat} {l5 : Nat}  {σ : Mem} (C : Cx p s m args meth c cX6_addClass RX6 8 D tc b0) (hr : meth.sig.returnType = (some (FieldType.object "BeeRegister$Kind"))) (hS : va_S (AA b0) s.heap H locs) (hW : Wd G D tc b0 σ H) (hl : hL b0 ls 8 [some (.inr (.inr l0)), none, none, none, none, some (.inr (.inr l5)), none, none]) (h : X_X6_addClass_106 G Qx l0 l5  σ) : W p l e rm_X6_addClass s m args below meth c H locs 0 0 (MQ below (va_Qq (fun o u => ∃ r, o = ro b0 r ∧ Qx r u) (fun u t => Pw G D tc b0 u t) (AA b0)) args s 0 0 (AA b0)) (F0 m 106 ls []) := by
  have hx := C.1
  have hb := C.2.1
  unfold X_X6_addClass_106 at h
  refine x_aload_n C hl dX6_addClass_106 rfl ?_
  refine lv_dup hx hb dX6_addClass_107 (rv_cat _ _) ?_
  have t1 := h.1
  replace h := h.2
  refine x_get C hW (t := 6) (k := 0) t1 kl_6 (by decide) fl_X6_29 (v := .int (mI σ l0 0)) rfl dX6_addClass_108 ?_
  refine lv_iconst (v := (1 : Int32)) hx hb dX6_addClass_111 (by decide) ?_
  refine lv_iadd hx hb dX6_addClass_112 ?_
  refine x_putI C hW hS (t := 6) (k := 0) t1 kl_6 (by decide) fl_X6_29 rfl rfl rfl rfl dX6_addClass_113 (fun H locs hW hS => ?_)
  obtain ⟨s2, e_s2⟩ : ∃ z : Mem, z = (sI σ l0 0 ((mI σ l0 0) + (1 : Int32))) := ⟨_, rfl⟩
  replace h := h s2 e_s2
  replace hW : Wd G D tc b0 s2 H := by rw [e_s2]; exact hW
  refine x_aload C hl dX6_addClass_116 rfl ?_
  exact r_r C hr hW hS h dX6_addClass_118
set_option maxRecDepth 20000 in
set_option maxHeartbeats 4000000 in
theorem t_X6_addClass_74_n {p : Program} {l : Launch} {e : Env} {s : State} {m : MethodId} {args : Array Value} {below : List Frame} {meth : Method} {c : Code} {D : va_G} {tc : Nat → ClassId} {b0 : Nat} {G : Lay} {Qx : Nat → Mem → Prop} {l0 : Nat} {l5 : Nat} {l6 : Nat} (C : Cx p s m args meth c cX6_addClass RX6 8 D tc b0) (hr : meth.sig.returnType = (some (FieldType.object "BeeRegister$Kind"))) (n : Nat) : ∀ (l7 : Int32) (σ : Mem) (H : Heap) (locs : List Loc) (ls : Array Slot), va_S (AA b0) s.heap H locs → Wd G D tc b0 σ H → hL b0 ls 8 [some (.inr (.inr l0)), none, none, none, none, some (.inr (.inr l5)), some (.inr (.inr l6)), some (.inl l7)] → Lp (X_X6_addClass_74_s G Qx l0 l5 l6) n (l7, σ) → W p l e rm_X6_addClass s m args below meth c H locs 0 0 (MQ below (va_Qq (fun o u => ∃ r, o = ro b0 r ∧ Qx r u) (fun u t => Pw G D tc b0 u t) (AA b0)) args s 0 0 (AA b0)) (F0 m 74 ls []) := by
  have hx := C.1
  have hb := C.2.1
  induction n with
  | zero => intro l7 σ H locs ls hS hW hl h; exact False.elim h
  | succ n hK74 =>
    intro l7 σ H locs ls hS hW hl h
    replace h : X_X6_addClass_74_s G Qx l0 l5 l6 (Lp (X_X6_addClass_74_s G Qx l0 l5 l6) n) (l7, σ) := h
    unfold X_X6_addClass_74_s at h
    refine x_iload C hl dX6_addClass_74 rfl ?_
    refine x_aload C hl dX6_addClass_76 rfl ?_
    have t1 := h.1
    replace h := h.2
    refine x_get C hW (t := 1) (k := 4) t1 kl_1 (by decide) fl_X6_46 (v := .int (mI σ l6 4)) rfl dX6_addClass_78 ?_
    refine lv_icmp_ge hx hb dX6_addClass_81 (tgt := 106) rfl (fun hc => ?_) (fun hc => ?_)
    · replace h := h.1 hc
      exact t_X6_addClass_106 C hr hS hW (hl.keep [true, false, false, false, false, true, false, false] rfl) h
    · replace h := h.2 hc
      refine x_aload C hl dX6_addClass_84 rfl ?_
      have t2 := h.1
      replace h := h.2
      refine x_get C hW (t := 1) (k := 5) t2 kl_1 (by decide) fl_X6_49 (v := rv b0 (mR σ l5 5)) rfl dX6_addClass_86 ?_
      refine x_iload C hl dX6_addClass_89 rfl ?_
      refine x_aload C hl dX6_addClass_91 rfl ?_
      refine x_get C hW (t := 1) (k := 5) t1 kl_1 (by decide) fl_X6_49 (v := rv b0 (mR σ l6 5)) rfl dX6_addClass_93 ?_
      refine x_iload C hl dX6_addClass_96 rfl ?_
      have t3 := h.1
      replace h := h.2
      have v4 := h.1
      replace h := h.2
      refine x_aald C hW (t := 104) (t0 := 5) t3 (by decide) rfl v4 dX6_addClass_98 ?_
      have t5 := h.1
      replace h := h.2
      have v6 := h.1
      replace h := h.2
      have t8 := h.1
      replace h := h.2
      refine x_aast C hW hS (t := 104) (t0 := 5) (tv := 2) t5 (by decide) rfl t8 kl_2 v6 dX6_addClass_99 (fun H locs hW hS => ?_)
      obtain ⟨s7, e_s7⟩ : ∃ z : Mem, z = (sR σ (mR σ l5 5) l7.toNatClampNeg (mR σ (mR σ l6 5) l7.toNatClampNeg)) := ⟨_, rfl⟩
      replace h := h s7 e_s7
      replace hW : Wd G D tc b0 s7 H := by rw [e_s7]; exact hW
      refine x_iinc C hl dX6_addClass_100 rfl (v := (1 : Int32)) (by decide) (by decide) rfl (fun ls hl => ?_)
      refine lv_goto hx hb dX6_addClass_103 (tgt := 74) rfl ?_
      exact hK74 _ _ _ _ _ hS hW (hl.keep [true, false, false, false, false, true, true, true] rfl) h
set_option maxRecDepth 20000 in
set_option maxHeartbeats 4000000 in
theorem t_X6_addClass_74 {p : Program} {l : Launch} {e : Env} {s : State} {m : MethodId} {args : Array Value} {below : List Frame} {meth : Method} {c : Code} {H : Heap} {locs : List Loc} {D : va_G} {tc : Nat → ClassId} {b0 : Nat} {ls : Array Slot} {G : Lay} {Qx : Nat → Mem → Prop} {l0 : Nat} {l5 : Nat} {l6 : Nat} {l7 : Int32}  {σ : Mem} (C : Cx p s m args meth c cX6_addClass RX6 8 D tc b0) (hr : meth.sig.returnType = (some (FieldType.object "BeeRegister$Kind"))) (hS : va_S (AA b0) s.heap H locs) (hW : Wd G D tc b0 σ H) (hl : hL b0 ls 8 [some (.inr (.inr l0)), none, none, none, none, some (.inr (.inr l5)), some (.inr (.inr l6)), some (.inl l7)]) (h : X_X6_addClass_74 G Qx l0 l5 l6 l7 σ) : W p l e rm_X6_addClass s m args below meth c H locs 0 0 (MQ below (va_Qq (fun o u => ∃ r, o = ro b0 r ∧ Qx r u) (fun u t => Pw G D tc b0 u t) (AA b0)) args s 0 0 (AA b0)) (F0 m 74 ls []) := by
  obtain ⟨n, h⟩ := h
  exact t_X6_addClass_74_n C hr n l7 σ H locs ls hS hW hl h
set_option maxRecDepth 20000 in
set_option maxHeartbeats 4000000 in
theorem t_X6_addClass_0 {p : Program} {l : Launch} {e : Env} {s : State} {m : MethodId} {args : Array Value} {below : List Frame} {meth : Method} {c : Code} {H : Heap} {locs : List Loc} {D : va_G} {tc : Nat → ClassId} {b0 : Nat} {ls : Array Slot} {G : Lay} {Qx : Nat → Mem → Prop} {l0 : Nat} {l1 : Int64} {l3 : Int32} {l4 : Int32}  {σ : Mem} (C : Cx p s m args meth c cX6_addClass RX6 8 D tc b0) (hr : meth.sig.returnType = (some (FieldType.object "BeeRegister$Kind"))) (hS : va_S (AA b0) s.heap H locs) (hW : Wd G D tc b0 σ H) (hl : hL b0 ls 8 [some (.inr (.inr l0)), some (.inr (.inl l1)), none, some (.inl l3), some (.inl l4), none, none, none]) (h : X_X6_addClass_0 G Qx l0 l1 l3 l4  σ) : W p l e rm_X6_addClass s m args below meth c H locs 0 0 (MQ below (va_Qq (fun o u => ∃ r, o = ro b0 r ∧ Qx r u) (fun u t => Pw G D tc b0 u t) (AA b0)) args s 0 0 (AA b0)) (F0 m 0 ls []) := by
  have hx := C.1
  have hb := C.2.1
  unfold X_X6_addClass_0 at h
  refine x_aload_n C hl dX6_addClass_0 rfl ?_
  have t1 := h.1
  replace h := h.2
  refine x_get C hW (t := 6) (k := 1) t1 kl_6 (by decide) fl_X6_11 (v := rv b0 (mR σ l0 1)) rfl dX6_addClass_1 ?_
  refine x_aload_n C hl dX6_addClass_4 rfl ?_
  refine x_get C hW (t := 6) (k := 0) t1 kl_6 (by decide) fl_X6_29 (v := .int (mI σ l0 0)) rfl dX6_addClass_5 ?_
  have t2 := h.1
  replace h := h.2
  have v3 := h.1
  replace h := h.2
  refine x_aald C hW (t := 103) (t0 := 4) t2 (by decide) rfl v3 dX6_addClass_8 ?_
  refine x_astore C hl dX6_addClass_9 (by decide) rfl (fun ls hl => ?_)
  refine x_aload C hl dX6_addClass_11 rfl ?_
  refine x_lload_n C hl dX6_addClass_13 rfl ?_
  refine x_aload_n C hl dX6_addClass_14 rfl ?_
  refine x_get C hW (t := 6) (k := 0) t1 kl_6 (by decide) fl_X6_29 (v := .int (mI σ l0 0)) rfl dX6_addClass_15 ?_
  refine x_iload C hl dX6_addClass_18 rfl ?_
  have t4 := h.1
  replace h := h.2
  refine y_v (x_run (As := [.long l1, .int (mI σ l0 0), .int l4]) C hW hS (T_X1_begin l (mR σ (mR σ l0 1) (mI σ l0 0).toNatClampNeg) l1 (mI σ l0 0) l4 σ _ h) t4 kl_1 (CW.of yv_X1_begin ml_X6_69) ⟨rfl, rfl, ⟨by decide, by decide⟩, by decide, by decide⟩ rfl hl.1 rfl (by decide) dX6_addClass_20) hS (fun s5 H locs h hW hS => ?_)
  refine x_aload_n C hl dX6_addClass_23 rfl ?_
  refine x_iload_n C hl dX6_addClass_24 rfl ?_
  refine y_r (x_run (As := [.int l3]) C hW hS (T_X6_kindAt l l0 l3 s5 _ h) t1 kl_6 (CW.of yv_X6_kindAt ml_X6_42) ⟨rfl, rfl, ⟨by decide, by decide⟩, by decide, by decide⟩ rfl hl.1 rfl (by decide) dX6_addClass_25) hS (fun w7 s6 H locs h hW hS => ?_)
  refine x_astore C hl dX6_addClass_28 (by decide) rfl (fun ls hl => ?_)
  refine x_aload C hl dX6_addClass_30 rfl ?_
  refine x_ifnull C dX6_addClass_32 (tgt := 106) rfl (fun hc => ?_) (fun hc => ?_)
  · replace h := h.1 hc
    exact t_X6_addClass_106 C hr hS hW (hl.keep [true, false, false, false, false, true, false, false] rfl) h
  · replace h := h.2 hc
    refine x_aload C hl dX6_addClass_35 rfl ?_
    refine x_iload_n C hl dX6_addClass_37 rfl ?_
    refine x_putI C hW hS (t := 1) (k := 1) t4 kl_1 (by decide) fl_X6_60 rfl rfl rfl rfl dX6_addClass_38 (fun H locs hW hS => ?_)
    obtain ⟨s8, e_s8⟩ : ∃ z : Mem, z = (sI s6 (mR σ (mR σ l0 1) (mI σ l0 0).toNatClampNeg) 1 l3) := ⟨_, rfl⟩
    replace h := h s8 e_s8
    replace hW : Wd G D tc b0 s8 H := by rw [e_s8]; exact hW
    refine x_aload C hl dX6_addClass_41 rfl ?_
    refine x_aload C hl dX6_addClass_43 rfl ?_
    have t9 := h.1
    replace h := h.2
    refine x_get C hW (t := 1) (k := 2) t9 kl_1 (by decide) fl_X6_39 (v := .int (mI s8 w7 2)) rfl dX6_addClass_45 ?_
    refine x_putI C hW hS (t := 1) (k := 2) t4 kl_1 (by decide) fl_X6_39 rfl rfl rfl rfl dX6_addClass_48 (fun H locs hW hS => ?_)
    obtain ⟨s10, e_s10⟩ : ∃ z : Mem, z = (sI s8 (mR σ (mR σ l0 1) (mI σ l0 0).toNatClampNeg) 2 (mI s8 w7 2)) := ⟨_, rfl⟩
    replace h := h s10 e_s10
    replace hW : Wd G D tc b0 s10 H := by rw [e_s10]; exact hW
    refine x_aload C hl dX6_addClass_51 rfl ?_
    refine x_aload C hl dX6_addClass_53 rfl ?_
    refine x_get C hW (t := 1) (k := 3) t9 kl_1 (by decide) fl_X6_73 (v := .int (mI s10 w7 3)) rfl dX6_addClass_55 ?_
    refine x_putI C hW hS (t := 1) (k := 3) t4 kl_1 (by decide) fl_X6_73 rfl rfl rfl rfl dX6_addClass_58 (fun H locs hW hS => ?_)
    obtain ⟨s11, e_s11⟩ : ∃ z : Mem, z = (sI s10 (mR σ (mR σ l0 1) (mI σ l0 0).toNatClampNeg) 3 (mI s10 w7 3)) := ⟨_, rfl⟩
    replace h := h s11 e_s11
    replace hW : Wd G D tc b0 s11 H := by rw [e_s11]; exact hW
    refine x_aload C hl dX6_addClass_61 rfl ?_
    refine x_aload C hl dX6_addClass_63 rfl ?_
    refine x_get C hW (t := 1) (k := 4) t9 kl_1 (by decide) fl_X6_46 (v := .int (mI s11 w7 4)) rfl dX6_addClass_65 ?_
    refine x_putI C hW hS (t := 1) (k := 4) t4 kl_1 (by decide) fl_X6_46 rfl rfl rfl rfl dX6_addClass_68 (fun H locs hW hS => ?_)
    obtain ⟨s12, e_s12⟩ : ∃ z : Mem, z = (sI s11 (mR σ (mR σ l0 1) (mI σ l0 0).toNatClampNeg) 4 (mI s11 w7 4)) := ⟨_, rfl⟩
    replace h := h s12 e_s12
    replace hW : Wd G D tc b0 s12 H := by rw [e_s12]; exact hW
    refine lv_iconst (v := (0 : Int32)) hx hb dX6_addClass_71 (by decide) ?_
    refine x_istore C hl dX6_addClass_72 (by decide) rfl (fun ls hl => ?_)
    exact t_X6_addClass_74 C hr hS hW (hl.keep [true, false, false, false, false, true, true, true] rfl) h
theorem T_X6_addClass (l : Launch) {G : Lay} {D : va_G} {tc : Nat → ClassId} {b0 : Nat} (l0 : Nat) (l1 : Int64) (l3 : Int32) (l4 : Int32) (σ : Mem) (Qx : Nat → Mem → Prop) (h : X_X6_addClass G Qx l0 l1 l3 l4 σ) : MR l yX6_addClass cX6_addClass 8 ((some (FieldType.object "BeeRegister$Kind"))) rm_X6_addClass G D tc b0 [rv b0 l0, .long l1, .int l3, .int l4] σ Qx :=
  x_entry (y := yX6_addClass) [.inr (.inr l0), .inr (.inl l1), .inl l3, .inl l4] 3 (by decide) (Nat.le_of_ble_eq_true rfl) (fun p e s m args below meth c ls C hr hW hl => t_X6_addClass_0 C hr va_S.rf hW (hl.keep [true, true, false, true, true, false, false, false] rfl) h)
/-! X0_readOrigin -/
set_option maxRecDepth 20000 in
set_option maxHeartbeats 4000000 in
theorem t_X0_readOrigin_115 {p : Program} {l : Launch} {e : Env} {s : State} {m : MethodId} {args : Array Value} {below : List Frame} {meth : Method} {c : Code} {H : Heap} {locs : List Loc} {D : va_G} {tc : Nat → ClassId} {b0 : Nat} {ls : Array Slot} {G : Lay} {Qx : Int32 → Mem → Prop} {l0 : Nat} {l1 : Int64} {l3 : Int32} {l4 : Int32}  {σ : Mem} (C : Cx p s m args meth c cX0_readOrigin RX0 5 D tc b0) (hr : meth.sig.returnType = (some FieldType.boolean)) (hS : va_S (AA b0) s.heap H locs) (hW : Wd G D tc b0 σ H) (hl : hL b0 ls 5 [some (.inr (.inr l0)), some (.inr (.inl l1)), none, some (.inl l3), some (.inl l4)]) (h : X_X0_readOrigin_115 G Qx l0 l1 l3 l4  σ) : W p l e rm_X0_readOrigin s m args below meth c H locs 0 0 (MQ below (va_Qi Qx (fun u t => Pw G D tc b0 u t) (AA b0)) args s 0 0 (AA b0)) (F0 m 115 ls []) := by
  have hx := C.1
  have hb := C.2.1
  unfold X_X0_readOrigin_115 at h
  refine x_aload_n C hl dX0_readOrigin_115 rfl ?_
  have t1 := h.1
  replace h := h.2
  refine x_get C hW (t := 0) (k := 0) t1 kl_0 (by decide) fl_X0_9 (v := rv b0 (mR σ l0 0)) rfl dX0_readOrigin_116 ?_
  refine lv_ldc2 (own := RX0) (v := (123 : Int64)) hx hb C.2.2.2.1 (C.2.2.2.2.1 _ (gc4 13 rfl rfl)) dX0_readOrigin_119 ?_
  have t2 := h.1
  replace h := h.2
  refine y_i (x_run (As := [.long (123 : Int64)]) C hW hS (T_X8_expects l (mR σ l0 0) (123 : Int64) σ _ h) t2 kl_8 (CW.of yv_X8_expects ml_X0_48) ⟨rfl, rfl, ⟨by decide, by decide⟩, by decide, by decide⟩ rfl hl.1 rfl (by decide) dX0_readOrigin_122) hS (fun w4 s3 H locs h hW hS => ?_)
  refine lv_if_ne hx hb dX0_readOrigin_125 (tgt := 130) rfl (fun hc => ?_) (fun hc => ?_)
  · replace h := h.2 hc
    refine x_aload_n C hl dX0_readOrigin_130 rfl ?_
    refine x_aload_n C hl dX0_readOrigin_131 rfl ?_
    refine x_get C hW (t := 0) (k := 1) t1 kl_0 (by decide) fl_X0_15 (v := rv b0 (mR s3 l0 1)) rfl dX0_readOrigin_132 ?_
    refine x_lload_n C hl dX0_readOrigin_135 rfl ?_
    refine x_iload_n C hl dX0_readOrigin_136 rfl ?_
    refine x_iload C hl dX0_readOrigin_137 rfl ?_
    have t5 := h.1
    replace h := h.2
    refine y_r (x_run (As := [.long l1, .int l3, .int l4]) C hW hS (T_X6_addClass l (mR s3 l0 1) l1 l3 l4 s3 _ h) t5 kl_6 (CW.of yv_X6_addClass ml_X0_95) ⟨rfl, rfl, ⟨by decide, by decide⟩, by decide, by decide⟩ rfl hl.1 rfl (by simp [rv_cat, cat_i, cat_l]) dX0_readOrigin_139) hS (fun w7 s6 H locs h hW hS => ?_)
    refine x_putR C hW hS (t := 0) (k := 2) t1 kl_0 (by decide) fl_X0_24 rfl rfl (fun o => by cases o <;> rfl) (fun o => by cases o <;> rfl) dX0_readOrigin_142 (fun H locs hW hS => ?_)
    obtain ⟨s8, e_s8⟩ : ∃ z : Mem, z = (sR s6 l0 2 w7) := ⟨_, rfl⟩
    replace h := h s8 e_s8
    replace hW : Wd G D tc b0 s8 H := by rw [e_s8]; exact hW
    refine lv_iconst (v := (1 : Int32)) hx hb dX0_readOrigin_145 (by decide) ?_
    exact r_z C hr hW hS h.1 h.2 dX0_readOrigin_146
  · replace h := h.1 hc
    refine lv_iconst (v := (0 : Int32)) hx hb dX0_readOrigin_128 (by decide) ?_
    exact r_z C hr hW hS h.1 h.2 dX0_readOrigin_129
set_option maxRecDepth 20000 in
set_option maxHeartbeats 4000000 in
theorem t_X0_readOrigin_0 {p : Program} {l : Launch} {e : Env} {s : State} {m : MethodId} {args : Array Value} {below : List Frame} {meth : Method} {c : Code} {H : Heap} {locs : List Loc} {D : va_G} {tc : Nat → ClassId} {b0 : Nat} {ls : Array Slot} {G : Lay} {Qx : Int32 → Mem → Prop} {l0 : Nat} {l1 : Int64}  {σ : Mem} (C : Cx p s m args meth c cX0_readOrigin RX0 5 D tc b0) (hr : meth.sig.returnType = (some FieldType.boolean)) (hS : va_S (AA b0) s.heap H locs) (hW : Wd G D tc b0 σ H) (hl : hL b0 ls 5 [some (.inr (.inr l0)), some (.inr (.inl l1)), none, none, none]) (h : X_X0_readOrigin_0 G Qx l0 l1  σ) : W p l e rm_X0_readOrigin s m args below meth c H locs 0 0 (MQ below (va_Qi Qx (fun u t => Pw G D tc b0 u t) (AA b0)) args s 0 0 (AA b0)) (F0 m 0 ls []) := by
  have hx := C.1
  have hb := C.2.1
  unfold X_X0_readOrigin_0 at h
  refine lv_iconst (v := (-1 : Int32)) hx hb dX0_readOrigin_0 (by decide) ?_
  refine x_istore_n C hl dX0_readOrigin_1 (by decide) rfl (fun ls hl => ?_)
  refine lv_iconst (v := (0 : Int32)) hx hb dX0_readOrigin_2 (by decide) ?_
  refine x_istore C hl dX0_readOrigin_3 (by decide) rfl (fun ls hl => ?_)
  refine x_aload_n C hl dX0_readOrigin_5 rfl ?_
  have t1 := h.1
  replace h := h.2
  refine x_get C hW (t := 0) (k := 0) t1 kl_0 (by decide) fl_X0_9 (v := rv b0 (mR σ l0 0)) rfl dX0_readOrigin_6 ?_
  refine lv_ldc2 (own := RX0) (v := (28518 : Int64)) hx hb C.2.2.2.1 (C.2.2.2.2.1 _ (gc3 239 rfl rfl)) dX0_readOrigin_9 ?_
  have t2 := h.1
  replace h := h.2
  refine y_i (x_run (As := [.long (28518 : Int64)]) C hW hS (T_X8_takes l (mR σ l0 0) (28518 : Int64) σ _ h) t2 kl_8 (CW.of yv_X8_takes ml_X0_84) ⟨rfl, rfl, ⟨by decide, by decide⟩, by decide, by decide⟩ rfl hl.1 rfl (by decide) dX0_readOrigin_12) hS (fun w4 s3 H locs h hW hS => ?_)
  refine lv_if_eq hx hb dX0_readOrigin_15 (tgt := 75) rfl (fun hc => ?_) (fun hc => ?_)
  · replace h := h.1 hc
    refine x_aload_n C hl dX0_readOrigin_75 rfl ?_
    refine x_get C hW (t := 0) (k := 0) t1 kl_0 (by decide) fl_X0_9 (v := rv b0 (mR s3 l0 0)) rfl dX0_readOrigin_76 ?_
    refine lv_ldc2 (own := RX0) (v := (7823737 : Int64)) hx hb C.2.2.2.1 (C.2.2.2.2.1 _ (gc4 1 rfl rfl)) dX0_readOrigin_79 ?_
    have t5 := h.1
    replace h := h.2
    refine y_i (x_run (As := [.long (7823737 : Int64)]) C hW hS (T_X8_takes l (mR s3 l0 0) (7823737 : Int64) s3 _ h) t5 kl_8 (CW.of yv_X8_takes ml_X0_84) ⟨rfl, rfl, ⟨by decide, by decide⟩, by decide, by decide⟩ rfl hl.1 rfl (by decide) dX0_readOrigin_82) hS (fun w7 s6 H locs h hW hS => ?_)
    refine lv_if_eq hx hb dX0_readOrigin_85 (tgt := 115) rfl (fun hc => ?_) (fun hc => ?_)
    · replace h := h.1 hc
      exact t_X0_readOrigin_115 C hr hS hW (hl.keep [true, true, false, true, true] rfl) h
    · replace h := h.2 hc
      refine x_aload_n C hl dX0_readOrigin_88 rfl ?_
      refine y_i (x_run (As := []) C hW hS (T_X0_wayNow l l0 s6 _ h) t1 kl_0 (CW.of yv_X0_wayNow ml_X0_89) ⟨rfl, rfl, ⟨by decide, by decide⟩, by decide, by decide⟩ rfl hl.1 rfl (by decide) dX0_readOrigin_89) hS (fun w9 s8 H locs h hW hS => ?_)
      refine x_istore C hl dX0_readOrigin_92 (by decide) rfl (fun ls hl => ?_)
      refine x_iload C hl dX0_readOrigin_94 rfl ?_
      refine lv_iconst (v := (-1 : Int32)) hx hb dX0_readOrigin_96 (by decide) ?_
      refine lv_icmp_ne hx hb dX0_readOrigin_97 (tgt := 108) rfl (fun hc => ?_) (fun hc => ?_)
      · replace h := h.2 hc
        refine x_aload_n C hl dX0_readOrigin_108 rfl ?_
        refine x_get C hW (t := 0) (k := 0) t1 kl_0 (by decide) fl_X0_9 (v := rv b0 (mR s8 l0 0)) rfl dX0_readOrigin_109 ?_
        have t10 := h.1
        replace h := h.2
        refine y_v (x_run (As := []) C hW hS (T_X8_pass l (mR s8 l0 0) s8 _ h) t10 kl_8 (CW.of yv_X8_pass ml_X0_74) ⟨rfl, rfl, ⟨by decide, by decide⟩, by decide, by decide⟩ rfl hl.1 rfl (by decide) dX0_readOrigin_112) hS (fun s11 H locs h hW hS => ?_)
        exact t_X0_readOrigin_115 C hr hS hW (hl.keep [true, true, false, true, true] rfl) h
      · replace h := h.1 hc
        refine x_aload_n C hl dX0_readOrigin_100 rfl ?_
        refine x_get C hW (t := 0) (k := 0) t1 kl_0 (by decide) fl_X0_9 (v := rv b0 (mR s8 l0 0)) rfl dX0_readOrigin_101 ?_
        have t12 := h.1
        replace h := h.2
        refine y_i (x_run (As := []) C hW hS (T_X8_misplaced l (mR s8 l0 0) s8 _ h) t12 kl_8 (CW.of yv_X8_misplaced ml_X0_55) ⟨rfl, rfl, ⟨by decide, by decide⟩, by decide, by decide⟩ rfl hl.1 rfl (by decide) dX0_readOrigin_104) hS (fun w14 s13 H locs h hW hS => ?_)
        exact r_z C hr hW hS h.1 h.2 dX0_readOrigin_107
  · replace h := h.2 hc
    refine x_aload_n C hl dX0_readOrigin_18 rfl ?_
    refine x_get C hW (t := 0) (k := 0) t1 kl_0 (by decide) fl_X0_9 (v := rv b0 (mR s3 l0 0)) rfl dX0_readOrigin_19 ?_
    have t15 := h.1
    replace h := h.2
    refine y_i (x_run (As := []) C hW hS (T_X8_isName l (mR s3 l0 0) s3 _ h) t15 kl_8 (CW.of yv_X8_isName ml_X0_52) ⟨rfl, rfl, ⟨by decide, by decide⟩, by decide, by decide⟩ rfl hl.1 rfl (by decide) dX0_readOrigin_22) hS (fun w17 s16 H locs h hW hS => ?_)
    refine lv_if_ne hx hb dX0_readOrigin_25 (tgt := 36) rfl (fun hc => ?_) (fun hc => ?_)
    · replace h := h.2 hc
      refine x_aload_n C hl dX0_readOrigin_36 rfl ?_
      refine x_get C hW (t := 0) (k := 1) t1 kl_0 (by decide) fl_X0_15 (v := rv b0 (mR s16 l0 1)) rfl dX0_readOrigin_37 ?_
      refine x_aload_n C hl dX0_readOrigin_40 rfl ?_
      refine x_get C hW (t := 0) (k := 0) t1 kl_0 (by decide) fl_X0_9 (v := rv b0 (mR s16 l0 0)) rfl dX0_readOrigin_41 ?_
      have t18 := h.1
      replace h := h.2
      refine y_l (x_run (As := []) C hW hS (T_X8_word l (mR s16 l0 0) s16 _ h) t18 kl_8 (CW.of yv_X8_word ml_X0_58) ⟨rfl, rfl, ⟨by decide, by decide⟩, by decide, by decide⟩ rfl hl.1 rfl (by simp [rv_cat, cat_i, cat_l]) dX0_readOrigin_44) hS (fun w20 s19 H locs h hW hS => ?_)
      have t21 := h.1
      replace h := h.2
      refine y_i (x_run (As := [.long w20]) C hW hS (T_X6_classNamed l (mR s16 l0 1) w20 s19 _ h) t21 kl_6 (CW.of yv_X6_classNamed ml_X0_62) ⟨rfl, rfl, ⟨by decide, by decide⟩, by decide, by decide⟩ rfl hl.1 rfl (by decide) dX0_readOrigin_47) hS (fun w23 s22 H locs h hW hS => ?_)
      refine x_istore_n C hl dX0_readOrigin_50 (by decide) rfl (fun ls hl => ?_)
      refine x_iload_n C hl dX0_readOrigin_51 rfl ?_
      refine lv_iconst (v := (-1 : Int32)) hx hb dX0_readOrigin_52 (by decide) ?_
      refine lv_icmp_ne hx hb dX0_readOrigin_53 (tgt := 65) rfl (fun hc => ?_) (fun hc => ?_)
      · replace h := h.2 hc
        refine x_aload_n C hl dX0_readOrigin_65 rfl ?_
        refine x_get C hW (t := 0) (k := 0) t1 kl_0 (by decide) fl_X0_9 (v := rv b0 (mR s22 l0 0)) rfl dX0_readOrigin_66 ?_
        have t24 := h.1
        replace h := h.2
        refine y_v (x_run (As := []) C hW hS (T_X8_pass l (mR s22 l0 0) s22 _ h) t24 kl_8 (CW.of yv_X8_pass ml_X0_74) ⟨rfl, rfl, ⟨by decide, by decide⟩, by decide, by decide⟩ rfl hl.1 rfl (by decide) dX0_readOrigin_69) hS (fun s25 H locs h hW hS => ?_)
        refine lv_goto hx hb dX0_readOrigin_72 (tgt := 115) rfl ?_
        exact t_X0_readOrigin_115 C hr hS hW (hl.keep [true, true, false, true, true] rfl) h
      · replace h := h.1 hc
        refine x_aload_n C hl dX0_readOrigin_56 rfl ?_
        refine x_get C hW (t := 0) (k := 0) t1 kl_0 (by decide) fl_X0_9 (v := rv b0 (mR s22 l0 0)) rfl dX0_readOrigin_57 ?_
        refine lv_iconst (v := (3 : Int32)) hx hb dX0_readOrigin_60 (by decide) ?_
        have t26 := h.1
        replace h := h.2
        refine y_i (x_run (As := [.int (3 : Int32)]) C hW hS (T_X8_refuse l (mR s22 l0 0) (3 : Int32) s22 _ h) t26 kl_8 (CW.of yv_X8_refuse ml_X0_66) ⟨rfl, rfl, ⟨by decide, by decide⟩, by decide, by decide⟩ rfl hl.1 rfl (by decide) dX0_readOrigin_61) hS (fun w28 s27 H locs h hW hS => ?_)
        exact r_z C hr hW hS h.1 h.2 dX0_readOrigin_64
    · replace h := h.1 hc
      refine x_aload_n C hl dX0_readOrigin_28 rfl ?_
      refine x_get C hW (t := 0) (k := 0) t1 kl_0 (by decide) fl_X0_9 (v := rv b0 (mR s16 l0 0)) rfl dX0_readOrigin_29 ?_
      have t29 := h.1
      replace h := h.2
      refine y_i (x_run (As := []) C hW hS (T_X8_misplaced l (mR s16 l0 0) s16 _ h) t29 kl_8 (CW.of yv_X8_misplaced ml_X0_55) ⟨rfl, rfl, ⟨by decide, by decide⟩, by decide, by decide⟩ rfl hl.1 rfl (by decide) dX0_readOrigin_32) hS (fun w31 s30 H locs h hW hS => ?_)
      exact r_z C hr hW hS h.1 h.2 dX0_readOrigin_35
theorem T_X0_readOrigin (l : Launch) {G : Lay} {D : va_G} {tc : Nat → ClassId} {b0 : Nat} (l0 : Nat) (l1 : Int64) (σ : Mem) (Qx : Int32 → Mem → Prop) (h : X_X0_readOrigin G Qx l0 l1 σ) : MI l yX0_readOrigin cX0_readOrigin 5 ((some FieldType.boolean)) rm_X0_readOrigin G D tc b0 [rv b0 l0, .long l1] σ Qx :=
  x_entry (y := yX0_readOrigin) [.inr (.inr l0), .inr (.inl l1)] 2 (by decide) (Nat.le_of_ble_eq_true rfl) (fun p e s m args below meth c ls C hr hW hl => t_X0_readOrigin_0 C hr va_S.rf hW (hl.keep [true, true, false, false, false] rfl) h)
/-! X0_readHead -/
set_option maxRecDepth 20000 in
set_option maxHeartbeats 4000000 in
theorem t_X0_readHead_0 {p : Program} {l : Launch} {e : Env} {s : State} {m : MethodId} {args : Array Value} {below : List Frame} {meth : Method} {c : Code} {H : Heap} {locs : List Loc} {D : va_G} {tc : Nat → ClassId} {b0 : Nat} {ls : Array Slot} {G : Lay} {Qx : Int32 → Mem → Prop} {l0 : Nat}  {σ : Mem} (C : Cx p s m args meth c cX0_readHead RX0 3 D tc b0) (hr : meth.sig.returnType = (some FieldType.boolean)) (hS : va_S (AA b0) s.heap H locs) (hW : Wd G D tc b0 σ H) (hl : hL b0 ls 3 [some (.inr (.inr l0)), none, none]) (h : X_X0_readHead_0 G Qx l0  σ) : W p l e rm_X0_readHead s m args below meth c H locs 0 0 (MQ below (va_Qi Qx (fun u t => Pw G D tc b0 u t) (AA b0)) args s 0 0 (AA b0)) (F0 m 0 ls []) := by
  have hx := C.1
  have hb := C.2.1
  unfold X_X0_readHead_0 at h
  refine x_aload_n C hl dX0_readHead_0 rfl ?_
  have t1 := h.1
  replace h := h.2
  refine x_get C hW (t := 0) (k := 0) t1 kl_0 (by decide) fl_X0_9 (v := rv b0 (mR σ l0 0)) rfl dX0_readHead_1 ?_
  refine lv_ldc2 (own := RX0) (v := (427020088179 : Int64)) hx hb C.2.2.2.1 (C.2.2.2.2.1 _ (gc3 197 rfl rfl)) dX0_readHead_4 ?_
  have t2 := h.1
  replace h := h.2
  refine y_i (x_run (As := [.long (427020088179 : Int64)]) C hW hS (T_X8_expects l (mR σ l0 0) (427020088179 : Int64) σ _ h) t2 kl_8 (CW.of yv_X8_expects ml_X0_48) ⟨rfl, rfl, ⟨by decide, by decide⟩, by decide, by decide⟩ rfl hl.1 rfl (by decide) dX0_readHead_7) hS (fun w4 s3 H locs h hW hS => ?_)
  refine lv_if_ne hx hb dX0_readHead_10 (tgt := 15) rfl (fun hc => ?_) (fun hc => ?_)
  · replace h := h.2 hc
    refine x_aload_n C hl dX0_readHead_15 rfl ?_
    refine x_get C hW (t := 0) (k := 0) t1 kl_0 (by decide) fl_X0_9 (v := rv b0 (mR s3 l0 0)) rfl dX0_readHead_16 ?_
    have t5 := h.1
    replace h := h.2
    refine y_i (x_run (As := []) C hW hS (T_X8_isName l (mR s3 l0 0) s3 _ h) t5 kl_8 (CW.of yv_X8_isName ml_X0_52) ⟨rfl, rfl, ⟨by decide, by decide⟩, by decide, by decide⟩ rfl hl.1 rfl (by decide) dX0_readHead_19) hS (fun w7 s6 H locs h hW hS => ?_)
    refine lv_if_ne hx hb dX0_readHead_22 (tgt := 33) rfl (fun hc => ?_) (fun hc => ?_)
    · replace h := h.2 hc
      refine x_aload_n C hl dX0_readHead_33 rfl ?_
      refine x_get C hW (t := 0) (k := 0) t1 kl_0 (by decide) fl_X0_9 (v := rv b0 (mR s6 l0 0)) rfl dX0_readHead_34 ?_
      have t8 := h.1
      replace h := h.2
      refine y_l (x_run (As := []) C hW hS (T_X8_word l (mR s6 l0 0) s6 _ h) t8 kl_8 (CW.of yv_X8_word ml_X0_58) ⟨rfl, rfl, ⟨by decide, by decide⟩, by decide, by decide⟩ rfl hl.1 rfl (by decide) dX0_readHead_37) hS (fun w10 s9 H locs h hW hS => ?_)
      refine x_lstore_n C hl dX0_readHead_40 (by decide) rfl (fun ls hl => ?_)
      refine x_aload_n C hl dX0_readHead_41 rfl ?_
      refine x_get C hW (t := 0) (k := 1) t1 kl_0 (by decide) fl_X0_15 (v := rv b0 (mR s9 l0 1)) rfl dX0_readHead_42 ?_
      refine x_lload_n C hl dX0_readHead_45 rfl ?_
      have t11 := h.1
      replace h := h.2
      refine y_i (x_run (As := [.long w10]) C hW hS (T_X6_classNamed l (mR s9 l0 1) w10 s9 _ h) t11 kl_6 (CW.of yv_X6_classNamed ml_X0_62) ⟨rfl, rfl, ⟨by decide, by decide⟩, by decide, by decide⟩ rfl hl.1 rfl (by decide) dX0_readHead_46) hS (fun w13 s12 H locs h hW hS => ?_)
      refine lv_iconst (v := (-1 : Int32)) hx hb dX0_readHead_49 (by decide) ?_
      refine lv_icmp_eq hx hb dX0_readHead_50 (tgt := 62) rfl (fun hc => ?_) (fun hc => ?_)
      · replace h := h.1 hc
        refine x_aload_n C hl dX0_readHead_62 rfl ?_
        refine x_get C hW (t := 0) (k := 1) t1 kl_0 (by decide) fl_X0_15 (v := rv b0 (mR s12 l0 1)) rfl dX0_readHead_63 ?_
        have t14 := h.1
        replace h := h.2
        refine x_get C hW (t := 6) (k := 0) t14 kl_6 (by decide) fl_X0_70 (v := .int (mI s12 (mR s12 l0 1) 0)) rfl dX0_readHead_66 ?_
        refine lv_bipush (v := (12 : Int32)) hx hb dX0_readHead_69 (by decide) ?_
        refine lv_icmp_lt hx hb dX0_readHead_71 (tgt := 83) rfl (fun hc => ?_) (fun hc => ?_)
        · replace h := h.1 hc
          refine x_aload_n C hl dX0_readHead_83 rfl ?_
          refine x_get C hW (t := 0) (k := 0) t1 kl_0 (by decide) fl_X0_9 (v := rv b0 (mR s12 l0 0)) rfl dX0_readHead_84 ?_
          have t15 := h.1
          replace h := h.2
          refine y_v (x_run (As := []) C hW hS (T_X8_pass l (mR s12 l0 0) s12 _ h) t15 kl_8 (CW.of yv_X8_pass ml_X0_74) ⟨rfl, rfl, ⟨by decide, by decide⟩, by decide, by decide⟩ rfl hl.1 rfl (by decide) dX0_readHead_87) hS (fun s16 H locs h hW hS => ?_)
          refine x_aload_n C hl dX0_readHead_90 rfl ?_
          refine x_lload_n C hl dX0_readHead_91 rfl ?_
          refine y_i (x_run (As := [.long w10]) C hW hS (T_X0_readOrigin l l0 w10 s16 _ h) t1 kl_0 (CW.of yv_X0_readOrigin ml_X0_77) ⟨rfl, rfl, ⟨by decide, by decide⟩, by decide, by decide⟩ rfl hl.1 rfl (by decide) dX0_readHead_92) hS (fun w18 s17 H locs h hW hS => ?_)
          exact r_z C hr hW hS h.1 h.2 dX0_readHead_95
        · replace h := h.2 hc
          refine x_aload_n C hl dX0_readHead_74 rfl ?_
          refine x_get C hW (t := 0) (k := 0) t1 kl_0 (by decide) fl_X0_9 (v := rv b0 (mR s12 l0 0)) rfl dX0_readHead_75 ?_
          refine lv_iconst (v := (4 : Int32)) hx hb dX0_readHead_78 (by decide) ?_
          have t19 := h.1
          replace h := h.2
          refine y_i (x_run (As := [.int (4 : Int32)]) C hW hS (T_X8_refuse l (mR s12 l0 0) (4 : Int32) s12 _ h) t19 kl_8 (CW.of yv_X8_refuse ml_X0_66) ⟨rfl, rfl, ⟨by decide, by decide⟩, by decide, by decide⟩ rfl hl.1 rfl (by decide) dX0_readHead_79) hS (fun w21 s20 H locs h hW hS => ?_)
          exact r_z C hr hW hS h.1 h.2 dX0_readHead_82
      · replace h := h.2 hc
        refine x_aload_n C hl dX0_readHead_53 rfl ?_
        refine x_get C hW (t := 0) (k := 0) t1 kl_0 (by decide) fl_X0_9 (v := rv b0 (mR s12 l0 0)) rfl dX0_readHead_54 ?_
        refine lv_iconst (v := (3 : Int32)) hx hb dX0_readHead_57 (by decide) ?_
        have t22 := h.1
        replace h := h.2
        refine y_i (x_run (As := [.int (3 : Int32)]) C hW hS (T_X8_refuse l (mR s12 l0 0) (3 : Int32) s12 _ h) t22 kl_8 (CW.of yv_X8_refuse ml_X0_66) ⟨rfl, rfl, ⟨by decide, by decide⟩, by decide, by decide⟩ rfl hl.1 rfl (by decide) dX0_readHead_58) hS (fun w24 s23 H locs h hW hS => ?_)
        exact r_z C hr hW hS h.1 h.2 dX0_readHead_61
    · replace h := h.1 hc
      refine x_aload_n C hl dX0_readHead_25 rfl ?_
      refine x_get C hW (t := 0) (k := 0) t1 kl_0 (by decide) fl_X0_9 (v := rv b0 (mR s6 l0 0)) rfl dX0_readHead_26 ?_
      have t25 := h.1
      replace h := h.2
      refine y_i (x_run (As := []) C hW hS (T_X8_misplaced l (mR s6 l0 0) s6 _ h) t25 kl_8 (CW.of yv_X8_misplaced ml_X0_55) ⟨rfl, rfl, ⟨by decide, by decide⟩, by decide, by decide⟩ rfl hl.1 rfl (by decide) dX0_readHead_29) hS (fun w27 s26 H locs h hW hS => ?_)
      exact r_z C hr hW hS h.1 h.2 dX0_readHead_32
  · replace h := h.1 hc
    refine lv_iconst (v := (0 : Int32)) hx hb dX0_readHead_13 (by decide) ?_
    exact r_z C hr hW hS h.1 h.2 dX0_readHead_14
theorem T_X0_readHead (l : Launch) {G : Lay} {D : va_G} {tc : Nat → ClassId} {b0 : Nat} (l0 : Nat) (σ : Mem) (Qx : Int32 → Mem → Prop) (h : X_X0_readHead G Qx l0 σ) : MI l yX0_readHead cX0_readHead 3 ((some FieldType.boolean)) rm_X0_readHead G D tc b0 [rv b0 l0] σ Qx :=
  x_entry (y := yX0_readHead) [.inr (.inr l0)] 2 (by decide) (Nat.le_of_ble_eq_true rfl) (fun p e s m args below meth c ls C hr hW hl => t_X0_readHead_0 C hr va_S.rf hW (hl.keep [true, false, false] rfl) h)
/-! X1_memberNamed -/
set_option maxRecDepth 20000 in
set_option maxHeartbeats 4000000 in
theorem t_X1_memberNamed_2_n {p : Program} {l : Launch} {e : Env} {s : State} {m : MethodId} {args : Array Value} {below : List Frame} {meth : Method} {c : Code} {D : va_G} {tc : Nat → ClassId} {b0 : Nat} {G : Lay} {Qx : Int32 → Mem → Prop} {l0 : Nat} {l1 : Int64} (C : Cx p s m args meth c cX1_memberNamed RX1 4 D tc b0) (hr : meth.sig.returnType = (some FieldType.int)) (n : Nat) : ∀ (l3 : Int32) (σ : Mem) (H : Heap) (locs : List Loc) (ls : Array Slot), va_S (AA b0) s.heap H locs → Wd G D tc b0 σ H → hL b0 ls 4 [some (.inr (.inr l0)), some (.inr (.inl l1)), none, some (.inl l3)] → Lp (X_X1_memberNamed_2_s G Qx l0 l1) n (l3, σ) → W p l e rm_X1_memberNamed s m args below meth c H locs 0 0 (MQ below (va_Qi Qx (fun u t => Pw G D tc b0 u t) (AA b0)) args s 0 0 (AA b0)) (F0 m 2 ls []) := by
  have hx := C.1
  have hb := C.2.1
  induction n with
  | zero => intro l3 σ H locs ls hS hW hl h; exact False.elim h
  | succ n hK2 =>
    intro l3 σ H locs ls hS hW hl h
    replace h : X_X1_memberNamed_2_s G Qx l0 l1 (Lp (X_X1_memberNamed_2_s G Qx l0 l1) n) (l3, σ) := h
    unfold X_X1_memberNamed_2_s at h
    refine x_iload_n C hl dX1_memberNamed_2 rfl ?_
    refine x_aload_n C hl dX1_memberNamed_3 rfl ?_
    have t1 := h.1
    replace h := h.2
    refine x_get C hW (t := 1) (k := 4) t1 kl_1 (by decide) fl_X1_42 (v := .int (mI σ l0 4)) rfl dX1_memberNamed_4 ?_
    refine lv_icmp_ge hx hb dX1_memberNamed_7 (tgt := 32) rfl (fun hc => ?_) (fun hc => ?_)
    · replace h := h.1 hc
      refine lv_iconst (v := (-1 : Int32)) hx hb dX1_memberNamed_32 (by decide) ?_
      exact r_i C hr hW hS h dX1_memberNamed_33
    · replace h := h.2 hc
      refine x_aload_n C hl dX1_memberNamed_10 rfl ?_
      refine x_get C hW (t := 1) (k := 5) t1 kl_1 (by decide) fl_X1_11 (v := rv b0 (mR σ l0 5)) rfl dX1_memberNamed_11 ?_
      refine x_iload_n C hl dX1_memberNamed_14 rfl ?_
      have t2 := h.1
      replace h := h.2
      have v3 := h.1
      replace h := h.2
      refine x_aald C hW (t := 104) (t0 := 5) t2 (by decide) rfl v3 dX1_memberNamed_15 ?_
      have t4 := h.1
      replace h := h.2
      refine x_get C hW (t := 2) (k := 0) t4 kl_2 (by decide) fl_X1_48 (v := .long (mJ σ (mR σ (mR σ l0 5) l3.toNatClampNeg) 0)) rfl dX1_memberNamed_16 ?_
      refine x_lload_n C hl dX1_memberNamed_19 rfl ?_
      refine W.lcmp hx hb dX1_memberNamed_20 ?_
      refine lv_if_ne hx hb dX1_memberNamed_21 (tgt := 26) rfl (fun hc => ?_) (fun hc => ?_)
      · replace h := h.2 hc
        refine x_iinc C hl dX1_memberNamed_26 rfl (v := (1 : Int32)) (by decide) (by decide) rfl (fun ls hl => ?_)
        refine lv_goto hx hb dX1_memberNamed_29 (tgt := 2) rfl ?_
        exact hK2 _ _ _ _ _ hS hW (hl.keep [true, true, false, true] rfl) h
      · replace h := h.1 hc
        refine x_iload_n C hl dX1_memberNamed_24 rfl ?_
        exact r_i C hr hW hS h dX1_memberNamed_25
set_option maxRecDepth 20000 in
set_option maxHeartbeats 4000000 in
theorem t_X1_memberNamed_2 {p : Program} {l : Launch} {e : Env} {s : State} {m : MethodId} {args : Array Value} {below : List Frame} {meth : Method} {c : Code} {H : Heap} {locs : List Loc} {D : va_G} {tc : Nat → ClassId} {b0 : Nat} {ls : Array Slot} {G : Lay} {Qx : Int32 → Mem → Prop} {l0 : Nat} {l1 : Int64} {l3 : Int32}  {σ : Mem} (C : Cx p s m args meth c cX1_memberNamed RX1 4 D tc b0) (hr : meth.sig.returnType = (some FieldType.int)) (hS : va_S (AA b0) s.heap H locs) (hW : Wd G D tc b0 σ H) (hl : hL b0 ls 4 [some (.inr (.inr l0)), some (.inr (.inl l1)), none, some (.inl l3)]) (h : X_X1_memberNamed_2 G Qx l0 l1 l3 σ) : W p l e rm_X1_memberNamed s m args below meth c H locs 0 0 (MQ below (va_Qi Qx (fun u t => Pw G D tc b0 u t) (AA b0)) args s 0 0 (AA b0)) (F0 m 2 ls []) := by
  obtain ⟨n, h⟩ := h
  exact t_X1_memberNamed_2_n C hr n l3 σ H locs ls hS hW hl h
set_option maxRecDepth 20000 in
set_option maxHeartbeats 4000000 in
theorem t_X1_memberNamed_0 {p : Program} {l : Launch} {e : Env} {s : State} {m : MethodId} {args : Array Value} {below : List Frame} {meth : Method} {c : Code} {H : Heap} {locs : List Loc} {D : va_G} {tc : Nat → ClassId} {b0 : Nat} {ls : Array Slot} {G : Lay} {Qx : Int32 → Mem → Prop} {l0 : Nat} {l1 : Int64}  {σ : Mem} (C : Cx p s m args meth c cX1_memberNamed RX1 4 D tc b0) (hr : meth.sig.returnType = (some FieldType.int)) (hS : va_S (AA b0) s.heap H locs) (hW : Wd G D tc b0 σ H) (hl : hL b0 ls 4 [some (.inr (.inr l0)), some (.inr (.inl l1)), none, none]) (h : X_X1_memberNamed_0 G Qx l0 l1  σ) : W p l e rm_X1_memberNamed s m args below meth c H locs 0 0 (MQ below (va_Qi Qx (fun u t => Pw G D tc b0 u t) (AA b0)) args s 0 0 (AA b0)) (F0 m 0 ls []) := by
  have hx := C.1
  have hb := C.2.1
  unfold X_X1_memberNamed_0 at h
  refine lv_iconst (v := (0 : Int32)) hx hb dX1_memberNamed_0 (by decide) ?_
  refine x_istore_n C hl dX1_memberNamed_1 (by decide) rfl (fun ls hl => ?_)
  exact t_X1_memberNamed_2 C hr hS hW (hl.keep [true, true, false, true] rfl) h
theorem T_X1_memberNamed (l : Launch) {G : Lay} {D : va_G} {tc : Nat → ClassId} {b0 : Nat} (l0 : Nat) (l1 : Int64) (σ : Mem) (Qx : Int32 → Mem → Prop) (h : X_X1_memberNamed G Qx l0 l1 σ) : MI l yX1_memberNamed cX1_memberNamed 4 ((some FieldType.int)) rm_X1_memberNamed G D tc b0 [rv b0 l0, .long l1] σ Qx :=
  x_entry (y := yX1_memberNamed) [.inr (.inr l0), .inr (.inl l1)] 1 (by decide) (Nat.le_of_ble_eq_true rfl) (fun p e s m args below meth c ls C hr hW hl => t_X1_memberNamed_0 C hr va_S.rf hW (hl.keep [true, true, false, false] rfl) h)
/-! X8_isNumber -/
set_option maxRecDepth 20000 in
set_option maxHeartbeats 4000000 in
theorem t_X8_isNumber_18 {p : Program} {l : Launch} {e : Env} {s : State} {m : MethodId} {args : Array Value} {below : List Frame} {meth : Method} {c : Code} {H : Heap} {locs : List Loc} {D : va_G} {tc : Nat → ClassId} {b0 : Nat} {ls : Array Slot} {G : Lay} {Qx : Int32 → Mem → Prop}  {k0 : Int32} {σ : Mem} (C : Cx p s m args meth c cX8_isNumber RX8 1 D tc b0) (hr : meth.sig.returnType = (some FieldType.boolean)) (hS : va_S (AA b0) s.heap H locs) (hW : Wd G D tc b0 σ H) (hl : hL b0 ls 1 [none]) (h : X_X8_isNumber_18 G Qx  k0 σ) : W p l e rm_X8_isNumber s m args below meth c H locs 0 0 (MQ below (va_Qi Qx (fun u t => Pw G D tc b0 u t) (AA b0)) args s 0 0 (AA b0)) (F0 m 18 ls [.int k0]) := by
  have hx := C.1
  have hb := C.2.1
  unfold X_X8_isNumber_18 at h
  exact r_z C hr hW hS h.1 h.2 dX8_isNumber_18
set_option maxRecDepth 20000 in
set_option maxHeartbeats 4000000 in
theorem t_X8_isNumber_0 {p : Program} {l : Launch} {e : Env} {s : State} {m : MethodId} {args : Array Value} {below : List Frame} {meth : Method} {c : Code} {H : Heap} {locs : List Loc} {D : va_G} {tc : Nat → ClassId} {b0 : Nat} {ls : Array Slot} {G : Lay} {Qx : Int32 → Mem → Prop} {l0 : Nat}  {σ : Mem} (C : Cx p s m args meth c cX8_isNumber RX8 1 D tc b0) (hr : meth.sig.returnType = (some FieldType.boolean)) (hS : va_S (AA b0) s.heap H locs) (hW : Wd G D tc b0 σ H) (hl : hL b0 ls 1 [some (.inr (.inr l0))]) (h : X_X8_isNumber_0 G Qx l0  σ) : W p l e rm_X8_isNumber s m args below meth c H locs 0 0 (MQ below (va_Qi Qx (fun u t => Pw G D tc b0 u t) (AA b0)) args s 0 0 (AA b0)) (F0 m 0 ls []) := by
  have hx := C.1
  have hb := C.2.1
  unfold X_X8_isNumber_0 at h
  refine x_aload_n C hl dX8_isNumber_0 rfl ?_
  have t1 := h.1
  replace h := h.2
  refine x_get C hW (t := 8) (k := 0) t1 kl_8 (by decide) fl_X8_9 (v := rv b0 (mR σ l0 0)) rfl dX8_isNumber_1 ?_
  refine x_aload_n C hl dX8_isNumber_4 rfl ?_
  refine x_get C hW (t := 8) (k := 4) t1 kl_8 (by decide) fl_X8_29 (v := .int (mI σ l0 4)) rfl dX8_isNumber_5 ?_
  have t2 := h.1
  replace h := h.2
  have v3 := h.1
  replace h := h.2
  refine x_iald C hW t2 v3 dX8_isNumber_8 ?_
  refine lv_iconst (v := (4 : Int32)) hx hb dX8_isNumber_9 (by decide) ?_
  refine lv_icmp_ne hx hb dX8_isNumber_10 (tgt := 17) rfl (fun hc => ?_) (fun hc => ?_)
  · replace h := h.2 hc
    refine lv_iconst (v := (0 : Int32)) hx hb dX8_isNumber_17 (by decide) ?_
    exact t_X8_isNumber_18 C hr hS hW (hl.keep [false] rfl) h
  · replace h := h.1 hc
    refine lv_iconst (v := (1 : Int32)) hx hb dX8_isNumber_13 (by decide) ?_
    refine lv_goto hx hb dX8_isNumber_14 (tgt := 18) rfl ?_
    exact t_X8_isNumber_18 C hr hS hW (hl.keep [false] rfl) h
theorem T_X8_isNumber (l : Launch) {G : Lay} {D : va_G} {tc : Nat → ClassId} {b0 : Nat} (l0 : Nat) (σ : Mem) (Qx : Int32 → Mem → Prop) (h : X_X8_isNumber G Qx l0 σ) : MI l yX8_isNumber cX8_isNumber 1 ((some FieldType.boolean)) rm_X8_isNumber G D tc b0 [rv b0 l0] σ Qx :=
  x_entry (y := yX8_isNumber) [.inr (.inr l0)] 0 (by decide) (Nat.le_of_ble_eq_true rfl) (fun p e s m args below meth c ls C hr hW hl => t_X8_isNumber_0 C hr va_S.rf hW (hl.keep [true] rfl) h)
/-! X8_number -/
set_option maxRecDepth 20000 in
set_option maxHeartbeats 4000000 in
theorem t_X8_number_0 {p : Program} {l : Launch} {e : Env} {s : State} {m : MethodId} {args : Array Value} {below : List Frame} {meth : Method} {c : Code} {H : Heap} {locs : List Loc} {D : va_G} {tc : Nat → ClassId} {b0 : Nat} {ls : Array Slot} {G : Lay} {Qx : Int32 → Mem → Prop} {l0 : Nat}  {σ : Mem} (C : Cx p s m args meth c cX8_number RX8 1 D tc b0) (hr : meth.sig.returnType = (some FieldType.int)) (hS : va_S (AA b0) s.heap H locs) (hW : Wd G D tc b0 σ H) (hl : hL b0 ls 1 [some (.inr (.inr l0))]) (h : X_X8_number_0 G Qx l0  σ) : W p l e rm_X8_number s m args below meth c H locs 0 0 (MQ below (va_Qi Qx (fun u t => Pw G D tc b0 u t) (AA b0)) args s 0 0 (AA b0)) (F0 m 0 ls []) := by
  have hx := C.1
  have hb := C.2.1
  unfold X_X8_number_0 at h
  refine x_aload_n C hl dX8_number_0 rfl ?_
  have t1 := h.1
  replace h := h.2
  refine x_get C hW (t := 8) (k := 2) t1 kl_8 (by decide) fl_X8_18 (v := rv b0 (mR σ l0 2)) rfl dX8_number_1 ?_
  refine x_aload_n C hl dX8_number_4 rfl ?_
  refine x_get C hW (t := 8) (k := 4) t1 kl_8 (by decide) fl_X8_29 (v := .int (mI σ l0 4)) rfl dX8_number_5 ?_
  have t2 := h.1
  replace h := h.2
  have v3 := h.1
  replace h := h.2
  refine x_lald C hW t2 v3 dX8_number_8 ?_
  refine lv_l2i hx hb dX8_number_9 rfl ?_
  exact r_i C hr hW hS h dX8_number_10
theorem T_X8_number (l : Launch) {G : Lay} {D : va_G} {tc : Nat → ClassId} {b0 : Nat} (l0 : Nat) (σ : Mem) (Qx : Int32 → Mem → Prop) (h : X_X8_number G Qx l0 σ) : MI l yX8_number cX8_number 1 ((some FieldType.int)) rm_X8_number G D tc b0 [rv b0 l0] σ Qx :=
  x_entry (y := yX8_number) [.inr (.inr l0)] 0 (by decide) (Nat.le_of_ble_eq_true rfl) (fun p e s m args below meth c ls C hr hW hl => t_X8_number_0 C hr va_S.rf hW (hl.keep [true] rfl) h)
/-! X0_readHook -/
set_option maxRecDepth 20000 in
set_option maxHeartbeats 4000000 in
theorem t_X0_readHook_110 {p : Program} {l : Launch} {e : Env} {s : State} {m : MethodId} {args : Array Value} {below : List Frame} {meth : Method} {c : Code} {H : Heap} {locs : List Loc} {D : va_G} {tc : Nat → ClassId} {b0 : Nat} {ls : Array Slot} {G : Lay} {Qx : Int32 → Mem → Prop} {l0 : Nat}  {σ : Mem} (C : Cx p s m args meth c cX0_readHook RX0 3 D tc b0) (hr : meth.sig.returnType = (some FieldType.boolean)) (hS : va_S (AA b0) s.heap H locs) (hW : Wd G D tc b0 σ H) (hl : hL b0 ls 3 [some (.inr (.inr l0)), none, none]) (h : X_X0_readHook_110 G Qx l0  σ) : W p l e rm_X0_readHook s m args below meth c H locs 0 0 (MQ below (va_Qi Qx (fun u t => Pw G D tc b0 u t) (AA b0)) args s 0 0 (AA b0)) (F0 m 110 ls []) := by
  have hx := C.1
  have hb := C.2.1
  unfold X_X0_readHook_110 at h
  refine x_aload_n C hl dX0_readHook_110 rfl ?_
  have t1 := h.1
  replace h := h.2
  refine x_get C hW (t := 0) (k := 0) t1 kl_0 (by decide) fl_X0_9 (v := rv b0 (mR σ l0 0)) rfl dX0_readHook_111 ?_
  refine lv_iconst (v := (3 : Int32)) hx hb dX0_readHook_114 (by decide) ?_
  have t2 := h.1
  replace h := h.2
  refine y_i (x_run (As := [.int (3 : Int32)]) C hW hS (T_X8_refuse l (mR σ l0 0) (3 : Int32) σ _ h) t2 kl_8 (CW.of yv_X8_refuse ml_X0_66) ⟨rfl, rfl, ⟨by decide, by decide⟩, by decide, by decide⟩ rfl hl.1 rfl (by decide) dX0_readHook_115) hS (fun w4 s3 H locs h hW hS => ?_)
  exact r_z C hr hW hS h.1 h.2 dX0_readHook_118
set_option maxRecDepth 20000 in
set_option maxHeartbeats 4000000 in
theorem t_X0_readHook_57 {p : Program} {l : Launch} {e : Env} {s : State} {m : MethodId} {args : Array Value} {below : List Frame} {meth : Method} {c : Code} {H : Heap} {locs : List Loc} {D : va_G} {tc : Nat → ClassId} {b0 : Nat} {ls : Array Slot} {G : Lay} {Qx : Int32 → Mem → Prop} {l0 : Nat} {l1 : Int32}  {σ : Mem} (C : Cx p s m args meth c cX0_readHook RX0 3 D tc b0) (hr : meth.sig.returnType = (some FieldType.boolean)) (hS : va_S (AA b0) s.heap H locs) (hW : Wd G D tc b0 σ H) (hl : hL b0 ls 3 [some (.inr (.inr l0)), some (.inl l1), none]) (h : X_X0_readHook_57 G Qx l0 l1  σ) : W p l e rm_X0_readHook s m args below meth c H locs 0 0 (MQ below (va_Qi Qx (fun u t => Pw G D tc b0 u t) (AA b0)) args s 0 0 (AA b0)) (F0 m 57 ls []) := by
  have hx := C.1
  have hb := C.2.1
  unfold X_X0_readHook_57 at h
  refine x_aload_n C hl dX0_readHook_57 rfl ?_
  have t1 := h.1
  replace h := h.2
  refine x_get C hW (t := 0) (k := 0) t1 kl_0 (by decide) fl_X0_9 (v := rv b0 (mR σ l0 0)) rfl dX0_readHook_58 ?_
  have t2 := h.1
  replace h := h.2
  refine y_i (x_run (As := []) C hW hS (T_X8_isName l (mR σ l0 0) σ _ h) t2 kl_8 (CW.of yv_X8_isName ml_X0_52) ⟨rfl, rfl, ⟨by decide, by decide⟩, by decide, by decide⟩ rfl hl.1 rfl (by decide) dX0_readHook_61) hS (fun w4 s3 H locs h hW hS => ?_)
  refine lv_if_ne hx hb dX0_readHook_64 (tgt := 75) rfl (fun hc => ?_) (fun hc => ?_)
  · replace h := h.2 hc
    refine x_aload_n C hl dX0_readHook_75 rfl ?_
    refine x_get C hW (t := 0) (k := 2) t1 kl_0 (by decide) fl_X0_24 (v := rv b0 (mR s3 l0 2)) rfl dX0_readHook_76 ?_
    refine x_aload_n C hl dX0_readHook_79 rfl ?_
    refine x_get C hW (t := 0) (k := 0) t1 kl_0 (by decide) fl_X0_9 (v := rv b0 (mR s3 l0 0)) rfl dX0_readHook_80 ?_
    have t5 := h.1
    replace h := h.2
    refine y_l (x_run (As := []) C hW hS (T_X8_word l (mR s3 l0 0) s3 _ h) t5 kl_8 (CW.of yv_X8_word ml_X0_58) ⟨rfl, rfl, ⟨by decide, by decide⟩, by decide, by decide⟩ rfl hl.1 rfl (by simp [rv_cat, cat_i, cat_l]) dX0_readHook_83) hS (fun w7 s6 H locs h hW hS => ?_)
    have t8 := h.1
    replace h := h.2
    refine y_i (x_run (As := [.long w7]) C hW hS (T_X1_memberNamed l (mR s3 l0 2) w7 s6 _ h) t8 kl_1 (CW.of yv_X1_memberNamed ml_X0_125) ⟨rfl, rfl, ⟨by decide, by decide⟩, by decide, by decide⟩ rfl hl.1 rfl (by decide) dX0_readHook_86) hS (fun w10 s9 H locs h hW hS => ?_)
    refine x_istore_n C hl dX0_readHook_89 (by decide) rfl (fun ls hl => ?_)
    refine x_iload_n C hl dX0_readHook_90 rfl ?_
    refine lv_iconst (v := (-1 : Int32)) hx hb dX0_readHook_91 (by decide) ?_
    refine lv_icmp_eq hx hb dX0_readHook_92 (tgt := 110) rfl (fun hc => ?_) (fun hc => ?_)
    · replace h := h.1 hc
      exact t_X0_readHook_110 C hr hS hW (hl.keep [true, false, false] rfl) h
    · replace h := h.2 hc
      refine x_aload_n C hl dX0_readHook_95 rfl ?_
      refine x_get C hW (t := 0) (k := 2) t1 kl_0 (by decide) fl_X0_24 (v := rv b0 (mR s9 l0 2)) rfl dX0_readHook_96 ?_
      have t11 := h.1
      replace h := h.2
      refine x_get C hW (t := 1) (k := 5) t11 kl_1 (by decide) fl_X0_128 (v := rv b0 (mR s9 (mR s9 l0 2) 5)) rfl dX0_readHook_99 ?_
      refine x_iload_n C hl dX0_readHook_102 rfl ?_
      have t12 := h.1
      replace h := h.2
      have v13 := h.1
      replace h := h.2
      refine x_aald C hW (t := 104) (t0 := 5) t12 (by decide) rfl v13 dX0_readHook_103 ?_
      have t14 := h.1
      replace h := h.2
      refine x_get C hW (t := 2) (k := 2) t14 kl_2 (by decide) fl_X0_132 (v := .int (mI s9 (mR s9 (mR s9 (mR s9 l0 2) 5) w10.toNatClampNeg) 2)) rfl dX0_readHook_104 ?_
      refine lv_if_eq hx hb dX0_readHook_107 (tgt := 119) rfl (fun hc => ?_) (fun hc => ?_)
      · replace h := h.1 hc
        refine x_aload_n C hl dX0_readHook_119 rfl ?_
        refine x_get C hW (t := 0) (k := 0) t1 kl_0 (by decide) fl_X0_9 (v := rv b0 (mR s9 l0 0)) rfl dX0_readHook_120 ?_
        have t15 := h.1
        replace h := h.2
        refine y_v (x_run (As := []) C hW hS (T_X8_pass l (mR s9 l0 0) s9 _ h) t15 kl_8 (CW.of yv_X8_pass ml_X0_74) ⟨rfl, rfl, ⟨by decide, by decide⟩, by decide, by decide⟩ rfl hl.1 rfl (by decide) dX0_readHook_123) hS (fun s16 H locs h hW hS => ?_)
        refine x_aload_n C hl dX0_readHook_126 rfl ?_
        refine x_get C hW (t := 0) (k := 0) t1 kl_0 (by decide) fl_X0_9 (v := rv b0 (mR s16 l0 0)) rfl dX0_readHook_127 ?_
        refine lv_ldc2 (own := RX0) (v := (43 : Int64)) hx hb C.2.2.2.1 (C.2.2.2.2.1 _ (gc4 42 rfl rfl)) dX0_readHook_130 ?_
        have t17 := h.1
        replace h := h.2
        refine y_i (x_run (As := [.long (43 : Int64)]) C hW hS (T_X8_expects l (mR s16 l0 0) (43 : Int64) s16 _ h) t17 kl_8 (CW.of yv_X8_expects ml_X0_48) ⟨rfl, rfl, ⟨by decide, by decide⟩, by decide, by decide⟩ rfl hl.1 rfl (by decide) dX0_readHook_133) hS (fun w19 s18 H locs h hW hS => ?_)
        refine lv_if_ne hx hb dX0_readHook_136 (tgt := 141) rfl (fun hc => ?_) (fun hc => ?_)
        · replace h := h.2 hc
          refine x_aload_n C hl dX0_readHook_141 rfl ?_
          refine x_get C hW (t := 0) (k := 0) t1 kl_0 (by decide) fl_X0_9 (v := rv b0 (mR s18 l0 0)) rfl dX0_readHook_142 ?_
          have t20 := h.1
          replace h := h.2
          refine y_i (x_run (As := []) C hW hS (T_X8_isNumber l (mR s18 l0 0) s18 _ h) t20 kl_8 (CW.of yv_X8_isNumber ml_X0_139) ⟨rfl, rfl, ⟨by decide, by decide⟩, by decide, by decide⟩ rfl hl.1 rfl (by decide) dX0_readHook_145) hS (fun w22 s21 H locs h hW hS => ?_)
          refine lv_if_ne hx hb dX0_readHook_148 (tgt := 159) rfl (fun hc => ?_) (fun hc => ?_)
          · replace h := h.2 hc
            refine x_aload_n C hl dX0_readHook_159 rfl ?_
            refine x_get C hW (t := 0) (k := 2) t1 kl_0 (by decide) fl_X0_24 (v := rv b0 (mR s21 l0 2)) rfl dX0_readHook_160 ?_
            have t23 := h.1
            replace h := h.2
            refine x_get C hW (t := 1) (k := 7) t23 kl_1 (by decide) fl_X0_142 (v := rv b0 (mR s21 (mR s21 l0 2) 7)) rfl dX0_readHook_163 ?_
            refine x_aload_n C hl dX0_readHook_166 rfl ?_
            refine x_get C hW (t := 0) (k := 2) t1 kl_0 (by decide) fl_X0_24 (v := rv b0 (mR s21 l0 2)) rfl dX0_readHook_167 ?_
            refine x_get C hW (t := 1) (k := 6) t23 kl_1 (by decide) fl_X0_118 (v := .int (mI s21 (mR s21 l0 2) 6)) rfl dX0_readHook_170 ?_
            refine x_iload_n C hl dX0_readHook_173 rfl ?_
            have t24 := h.1
            replace h := h.2
            have v25 := h.1
            replace h := h.2
            refine x_zast C hW hS t24 v25 dX0_readHook_174 (fun H locs hW hS => ?_)
            obtain ⟨s26, e_s26⟩ : ∃ z : Mem, z = (sI s21 (mR s21 (mR s21 l0 2) 7) (mI s21 (mR s21 l0 2) 6).toNatClampNeg (vp_nar .boolean l1)) := ⟨_, rfl⟩
            replace h := h s26 e_s26
            replace hW : Wd G D tc b0 s26 H := by rw [e_s26]; exact hW
            refine x_aload_n C hl dX0_readHook_175 rfl ?_
            refine x_get C hW (t := 0) (k := 2) t1 kl_0 (by decide) fl_X0_24 (v := rv b0 (mR s26 l0 2)) rfl dX0_readHook_176 ?_
            have t27 := h.1
            replace h := h.2
            refine x_get C hW (t := 1) (k := 8) t27 kl_1 (by decide) fl_X0_146 (v := rv b0 (mR s26 (mR s26 l0 2) 8)) rfl dX0_readHook_179 ?_
            refine x_aload_n C hl dX0_readHook_182 rfl ?_
            refine x_get C hW (t := 0) (k := 2) t1 kl_0 (by decide) fl_X0_24 (v := rv b0 (mR s26 l0 2)) rfl dX0_readHook_183 ?_
            refine x_get C hW (t := 1) (k := 6) t27 kl_1 (by decide) fl_X0_118 (v := .int (mI s26 (mR s26 l0 2) 6)) rfl dX0_readHook_186 ?_
            refine x_iload_n C hl dX0_readHook_189 rfl ?_
            have t28 := h.1
            replace h := h.2
            have v29 := h.1
            replace h := h.2
            refine x_iast C hW hS t28 v29 dX0_readHook_190 (fun H locs hW hS => ?_)
            obtain ⟨s30, e_s30⟩ : ∃ z : Mem, z = (sI s26 (mR s26 (mR s26 l0 2) 8) (mI s26 (mR s26 l0 2) 6).toNatClampNeg w10) := ⟨_, rfl⟩
            replace h := h s30 e_s30
            replace hW : Wd G D tc b0 s30 H := by rw [e_s30]; exact hW
            refine x_aload_n C hl dX0_readHook_191 rfl ?_
            refine x_get C hW (t := 0) (k := 2) t1 kl_0 (by decide) fl_X0_24 (v := rv b0 (mR s30 l0 2)) rfl dX0_readHook_192 ?_
            have t31 := h.1
            replace h := h.2
            refine x_get C hW (t := 1) (k := 9) t31 kl_1 (by decide) fl_X0_150 (v := rv b0 (mR s30 (mR s30 l0 2) 9)) rfl dX0_readHook_195 ?_
            refine x_aload_n C hl dX0_readHook_198 rfl ?_
            refine x_get C hW (t := 0) (k := 2) t1 kl_0 (by decide) fl_X0_24 (v := rv b0 (mR s30 l0 2)) rfl dX0_readHook_199 ?_
            refine x_get C hW (t := 1) (k := 6) t31 kl_1 (by decide) fl_X0_118 (v := .int (mI s30 (mR s30 l0 2) 6)) rfl dX0_readHook_202 ?_
            refine x_aload_n C hl dX0_readHook_205 rfl ?_
            refine x_get C hW (t := 0) (k := 0) t1 kl_0 (by decide) fl_X0_9 (v := rv b0 (mR s30 l0 0)) rfl dX0_readHook_206 ?_
            have t32 := h.1
            replace h := h.2
            refine y_i (x_run (As := []) C hW hS (T_X8_number l (mR s30 l0 0) s30 _ h) t32 kl_8 (CW.of yv_X8_number ml_X0_153) ⟨rfl, rfl, ⟨by decide, by decide⟩, by decide, by decide⟩ rfl hl.1 rfl (by simp [rv_cat, cat_i, cat_l]) dX0_readHook_209) hS (fun w34 s33 H locs h hW hS => ?_)
            have t35 := h.1
            replace h := h.2
            have v36 := h.1
            replace h := h.2
            refine x_iast C hW hS t35 v36 dX0_readHook_212 (fun H locs hW hS => ?_)
            obtain ⟨s37, e_s37⟩ : ∃ z : Mem, z = (sI s33 (mR s30 (mR s30 l0 2) 9) (mI s30 (mR s30 l0 2) 6).toNatClampNeg w34) := ⟨_, rfl⟩
            replace h := h s37 e_s37
            replace hW : Wd G D tc b0 s37 H := by rw [e_s37]; exact hW
            refine x_aload_n C hl dX0_readHook_213 rfl ?_
            refine x_get C hW (t := 0) (k := 2) t1 kl_0 (by decide) fl_X0_24 (v := rv b0 (mR s37 l0 2)) rfl dX0_readHook_214 ?_
            refine lv_dup hx hb dX0_readHook_217 (rv_cat _ _) ?_
            have t38 := h.1
            replace h := h.2
            refine x_get C hW (t := 1) (k := 6) t38 kl_1 (by decide) fl_X0_118 (v := .int (mI s37 (mR s37 l0 2) 6)) rfl dX0_readHook_218 ?_
            refine lv_iconst (v := (1 : Int32)) hx hb dX0_readHook_221 (by decide) ?_
            refine lv_iadd hx hb dX0_readHook_222 ?_
            refine x_putI C hW hS (t := 1) (k := 6) t38 kl_1 (by decide) fl_X0_118 rfl rfl rfl rfl dX0_readHook_223 (fun H locs hW hS => ?_)
            obtain ⟨s39, e_s39⟩ : ∃ z : Mem, z = (sI s37 (mR s37 l0 2) 6 ((mI s37 (mR s37 l0 2) 6) + (1 : Int32))) := ⟨_, rfl⟩
            replace h := h s39 e_s39
            replace hW : Wd G D tc b0 s39 H := by rw [e_s39]; exact hW
            refine x_aload_n C hl dX0_readHook_226 rfl ?_
            refine x_get C hW (t := 0) (k := 0) t1 kl_0 (by decide) fl_X0_9 (v := rv b0 (mR s39 l0 0)) rfl dX0_readHook_227 ?_
            have t40 := h.1
            replace h := h.2
            refine y_v (x_run (As := []) C hW hS (T_X8_pass l (mR s39 l0 0) s39 _ h) t40 kl_8 (CW.of yv_X8_pass ml_X0_74) ⟨rfl, rfl, ⟨by decide, by decide⟩, by decide, by decide⟩ rfl hl.1 rfl (by decide) dX0_readHook_230) hS (fun s41 H locs h hW hS => ?_)
            refine x_aload_n C hl dX0_readHook_233 rfl ?_
            refine x_get C hW (t := 0) (k := 0) t1 kl_0 (by decide) fl_X0_9 (v := rv b0 (mR s41 l0 0)) rfl dX0_readHook_234 ?_
            refine lv_ldc2 (own := RX0) (v := (59 : Int64)) hx hb C.2.2.2.1 (C.2.2.2.2.1 _ (gc4 51 rfl rfl)) dX0_readHook_237 ?_
            have t42 := h.1
            replace h := h.2
            refine y_i (x_run (As := [.long (59 : Int64)]) C hW hS (T_X8_expects l (mR s41 l0 0) (59 : Int64) s41 _ h) t42 kl_8 (CW.of yv_X8_expects ml_X0_48) ⟨rfl, rfl, ⟨by decide, by decide⟩, by decide, by decide⟩ rfl hl.1 rfl (by decide) dX0_readHook_240) hS (fun w44 s43 H locs h hW hS => ?_)
            exact r_z C hr hW hS h.1 h.2 dX0_readHook_243
          · replace h := h.1 hc
            refine x_aload_n C hl dX0_readHook_151 rfl ?_
            refine x_get C hW (t := 0) (k := 0) t1 kl_0 (by decide) fl_X0_9 (v := rv b0 (mR s21 l0 0)) rfl dX0_readHook_152 ?_
            have t45 := h.1
            replace h := h.2
            refine y_i (x_run (As := []) C hW hS (T_X8_misplaced l (mR s21 l0 0) s21 _ h) t45 kl_8 (CW.of yv_X8_misplaced ml_X0_55) ⟨rfl, rfl, ⟨by decide, by decide⟩, by decide, by decide⟩ rfl hl.1 rfl (by decide) dX0_readHook_155) hS (fun w47 s46 H locs h hW hS => ?_)
            exact r_z C hr hW hS h.1 h.2 dX0_readHook_158
        · replace h := h.1 hc
          refine lv_iconst (v := (0 : Int32)) hx hb dX0_readHook_139 (by decide) ?_
          exact r_z C hr hW hS h.1 h.2 dX0_readHook_140
      · replace h := h.2 hc
        exact t_X0_readHook_110 C hr hS hW (hl.keep [true, false, false] rfl) h
  · replace h := h.1 hc
    refine x_aload_n C hl dX0_readHook_67 rfl ?_
    refine x_get C hW (t := 0) (k := 0) t1 kl_0 (by decide) fl_X0_9 (v := rv b0 (mR s3 l0 0)) rfl dX0_readHook_68 ?_
    have t48 := h.1
    replace h := h.2
    refine y_i (x_run (As := []) C hW hS (T_X8_misplaced l (mR s3 l0 0) s3 _ h) t48 kl_8 (CW.of yv_X8_misplaced ml_X0_55) ⟨rfl, rfl, ⟨by decide, by decide⟩, by decide, by decide⟩ rfl hl.1 rfl (by decide) dX0_readHook_71) hS (fun w50 s49 H locs h hW hS => ?_)
    exact r_z C hr hW hS h.1 h.2 dX0_readHook_74
set_option maxRecDepth 20000 in
set_option maxHeartbeats 4000000 in
theorem t_X0_readHook_0 {p : Program} {l : Launch} {e : Env} {s : State} {m : MethodId} {args : Array Value} {below : List Frame} {meth : Method} {c : Code} {H : Heap} {locs : List Loc} {D : va_G} {tc : Nat → ClassId} {b0 : Nat} {ls : Array Slot} {G : Lay} {Qx : Int32 → Mem → Prop} {l0 : Nat}  {σ : Mem} (C : Cx p s m args meth c cX0_readHook RX0 3 D tc b0) (hr : meth.sig.returnType = (some FieldType.boolean)) (hS : va_S (AA b0) s.heap H locs) (hW : Wd G D tc b0 σ H) (hl : hL b0 ls 3 [some (.inr (.inr l0)), none, none]) (h : X_X0_readHook_0 G Qx l0  σ) : W p l e rm_X0_readHook s m args below meth c H locs 0 0 (MQ below (va_Qi Qx (fun u t => Pw G D tc b0 u t) (AA b0)) args s 0 0 (AA b0)) (F0 m 0 ls []) := by
  have hx := C.1
  have hb := C.2.1
  unfold X_X0_readHook_0 at h
  refine x_aload_n C hl dX0_readHook_0 rfl ?_
  have t1 := h.1
  replace h := h.2
  refine x_get C hW (t := 0) (k := 2) t1 kl_0 (by decide) fl_X0_24 (v := rv b0 (mR σ l0 2)) rfl dX0_readHook_1 ?_
  have t2 := h.1
  replace h := h.2
  refine x_get C hW (t := 1) (k := 6) t2 kl_1 (by decide) fl_X0_118 (v := .int (mI σ (mR σ l0 2) 6)) rfl dX0_readHook_4 ?_
  refine lv_iconst (v := (4 : Int32)) hx hb dX0_readHook_7 (by decide) ?_
  refine lv_icmp_lt hx hb dX0_readHook_8 (tgt := 20) rfl (fun hc => ?_) (fun hc => ?_)
  · replace h := h.1 hc
    refine x_aload_n C hl dX0_readHook_20 rfl ?_
    refine x_get C hW (t := 0) (k := 0) t1 kl_0 (by decide) fl_X0_9 (v := rv b0 (mR σ l0 0)) rfl dX0_readHook_21 ?_
    have t3 := h.1
    replace h := h.2
    refine y_v (x_run (As := []) C hW hS (T_X8_pass l (mR σ l0 0) σ _ h) t3 kl_8 (CW.of yv_X8_pass ml_X0_74) ⟨rfl, rfl, ⟨by decide, by decide⟩, by decide, by decide⟩ rfl hl.1 rfl (by decide) dX0_readHook_24) hS (fun s4 H locs h hW hS => ?_)
    refine x_aload_n C hl dX0_readHook_27 rfl ?_
    refine x_get C hW (t := 0) (k := 0) t1 kl_0 (by decide) fl_X0_9 (v := rv b0 (mR s4 l0 0)) rfl dX0_readHook_28 ?_
    refine lv_ldc2 (own := RX0) (v := (115923103347316 : Int64)) hx hb C.2.2.2.1 (C.2.2.2.2.1 _ (gc4 36 rfl rfl)) dX0_readHook_31 ?_
    have t5 := h.1
    replace h := h.2
    refine y_i (x_run (As := [.long (115923103347316 : Int64)]) C hW hS (T_X8_takes l (mR s4 l0 0) (115923103347316 : Int64) s4 _ h) t5 kl_8 (CW.of yv_X8_takes ml_X0_84) ⟨rfl, rfl, ⟨by decide, by decide⟩, by decide, by decide⟩ rfl hl.1 rfl (by decide) dX0_readHook_34) hS (fun w7 s6 H locs h hW hS => ?_)
    refine x_istore_n C hl dX0_readHook_37 (by decide) rfl (fun ls hl => ?_)
    refine x_iload_n C hl dX0_readHook_38 rfl ?_
    refine lv_if_ne hx hb dX0_readHook_39 (tgt := 57) rfl (fun hc => ?_) (fun hc => ?_)
    · replace h := h.2 hc
      exact t_X0_readHook_57 C hr hS hW (hl.keep [true, true, false] rfl) h
    · replace h := h.1 hc
      refine x_aload_n C hl dX0_readHook_42 rfl ?_
      refine x_get C hW (t := 0) (k := 0) t1 kl_0 (by decide) fl_X0_9 (v := rv b0 (mR s6 l0 0)) rfl dX0_readHook_43 ?_
      refine lv_ldc2 (own := RX0) (v := (109299962373989 : Int64)) hx hb C.2.2.2.1 (C.2.2.2.2.1 _ (gc4 37 rfl rfl)) dX0_readHook_46 ?_
      have t8 := h.1
      replace h := h.2
      refine y_i (x_run (As := [.long (109299962373989 : Int64)]) C hW hS (T_X8_expects l (mR s6 l0 0) (109299962373989 : Int64) s6 _ h) t8 kl_8 (CW.of yv_X8_expects ml_X0_48) ⟨rfl, rfl, ⟨by decide, by decide⟩, by decide, by decide⟩ rfl hl.1 rfl (by decide) dX0_readHook_49) hS (fun w10 s9 H locs h hW hS => ?_)
      refine lv_if_ne hx hb dX0_readHook_52 (tgt := 57) rfl (fun hc => ?_) (fun hc => ?_)
      · replace h := h.2 hc
        exact t_X0_readHook_57 C hr hS hW (hl.keep [true, true, false] rfl) h
      · replace h := h.1 hc
        refine lv_iconst (v := (0 : Int32)) hx hb dX0_readHook_55 (by decide) ?_
        exact r_z C hr hW hS h.1 h.2 dX0_readHook_56
  · replace h := h.2 hc
    refine x_aload_n C hl dX0_readHook_11 rfl ?_
    refine x_get C hW (t := 0) (k := 0) t1 kl_0 (by decide) fl_X0_9 (v := rv b0 (mR σ l0 0)) rfl dX0_readHook_12 ?_
    refine lv_iconst (v := (4 : Int32)) hx hb dX0_readHook_15 (by decide) ?_
    have t11 := h.1
    replace h := h.2
    refine y_i (x_run (As := [.int (4 : Int32)]) C hW hS (T_X8_refuse l (mR σ l0 0) (4 : Int32) σ _ h) t11 kl_8 (CW.of yv_X8_refuse ml_X0_66) ⟨rfl, rfl, ⟨by decide, by decide⟩, by decide, by decide⟩ rfl hl.1 rfl (by decide) dX0_readHook_16) hS (fun w13 s12 H locs h hW hS => ?_)
    exact r_z C hr hW hS h.1 h.2 dX0_readHook_19
theorem T_X0_readHook (l : Launch) {G : Lay} {D : va_G} {tc : Nat → ClassId} {b0 : Nat} (l0 : Nat) (σ : Mem) (Qx : Int32 → Mem → Prop) (h : X_X0_readHook G Qx l0 σ) : MI l yX0_readHook cX0_readHook 3 ((some FieldType.boolean)) rm_X0_readHook G D tc b0 [rv b0 l0] σ Qx :=
  x_entry (y := yX0_readHook) [.inr (.inr l0)] 2 (by decide) (Nat.le_of_ble_eq_true rfl) (fun p e s m args below meth c ls C hr hW hl => t_X0_readHook_0 C hr va_S.rf hW (hl.keep [true, false, false] rfl) h)
/-! X2_begin -/
set_option maxRecDepth 20000 in
set_option maxHeartbeats 4000000 in
theorem t_X2_begin_0 {p : Program} {l : Launch} {e : Env} {s : State} {m : MethodId} {args : Array Value} {below : List Frame} {meth : Method} {c : Code} {H : Heap} {locs : List Loc} {D : va_G} {tc : Nat → ClassId} {b0 : Nat} {ls : Array Slot} {G : Lay} {Qx : Mem → Prop} {l0 : Nat} {l1 : Int64} {l3 : Int32}  {σ : Mem} (C : Cx p s m args meth c cX2_begin RX2 4 D tc b0) (hr : meth.sig.returnType = (none : Option FieldType)) (hS : va_S (AA b0) s.heap H locs) (hW : Wd G D tc b0 σ H) (hl : hL b0 ls 4 [some (.inr (.inr l0)), some (.inr (.inl l1)), none, some (.inl l3)]) (h : X_X2_begin_0 G Qx l0 l1 l3  σ) : W p l e rm_X2_begin s m args below meth c H locs 0 0 (MQ below (va_Qv Qx (fun u t => Pw G D tc b0 u t) (AA b0)) args s 0 0 (AA b0)) (F0 m 0 ls []) := by
  have hx := C.1
  have hb := C.2.1
  unfold X_X2_begin_0 at h
  refine x_aload_n C hl dX2_begin_0 rfl ?_
  refine x_lload_n C hl dX2_begin_1 rfl ?_
  have t1 := h.1
  replace h := h.2
  refine x_putJ C hW hS (t := 2) (k := 0) t1 kl_2 (by decide) fl_X2_9 rfl rfl rfl rfl dX2_begin_2 (fun H locs hW hS => ?_)
  obtain ⟨s2, e_s2⟩ : ∃ z : Mem, z = (sJ σ l0 0 l1) := ⟨_, rfl⟩
  replace h := h s2 e_s2
  replace hW : Wd G D tc b0 s2 H := by rw [e_s2]; exact hW
  refine x_aload_n C hl dX2_begin_5 rfl ?_
  refine x_iload_n C hl dX2_begin_6 rfl ?_
  refine x_putI C hW hS (t := 2) (k := 1) t1 kl_2 (by decide) fl_X2_15 rfl rfl rfl rfl dX2_begin_7 (fun H locs hW hS => ?_)
  obtain ⟨s3, e_s3⟩ : ∃ z : Mem, z = (sI s2 l0 1 l3) := ⟨_, rfl⟩
  replace h := h s3 e_s3
  replace hW : Wd G D tc b0 s3 H := by rw [e_s3]; exact hW
  refine x_aload_n C hl dX2_begin_10 rfl ?_
  refine lv_iconst (v := (0 : Int32)) hx hb dX2_begin_11 (by decide) ?_
  refine x_putI C hW hS (t := 2) (k := 3) t1 kl_2 (by decide) fl_X2_19 rfl rfl rfl rfl dX2_begin_12 (fun H locs hW hS => ?_)
  obtain ⟨s4, e_s4⟩ : ∃ z : Mem, z = (sI s3 l0 3 (0 : Int32)) := ⟨_, rfl⟩
  replace h := h s4 e_s4
  replace hW : Wd G D tc b0 s4 H := by rw [e_s4]; exact hW
  refine x_aload_n C hl dX2_begin_15 rfl ?_
  refine lv_iconst (v := (0 : Int32)) hx hb dX2_begin_16 (by decide) ?_
  refine x_putI C hW hS (t := 2) (k := 5) t1 kl_2 (by decide) fl_X2_22 rfl rfl rfl rfl dX2_begin_17 (fun H locs hW hS => ?_)
  obtain ⟨s5, e_s5⟩ : ∃ z : Mem, z = (sI s4 l0 5 (0 : Int32)) := ⟨_, rfl⟩
  replace h := h s5 e_s5
  replace hW : Wd G D tc b0 s5 H := by rw [e_s5]; exact hW
  refine x_aload_n C hl dX2_begin_20 rfl ?_
  refine lv_iconst (v := (-1 : Int32)) hx hb dX2_begin_21 (by decide) ?_
  refine x_putI C hW hS (t := 2) (k := 8) t1 kl_2 (by decide) fl_X2_25 rfl rfl rfl rfl dX2_begin_22 (fun H locs hW hS => ?_)
  obtain ⟨s6, e_s6⟩ : ∃ z : Mem, z = (sI s5 l0 8 (-1 : Int32)) := ⟨_, rfl⟩
  replace h := h s6 e_s6
  replace hW : Wd G D tc b0 s6 H := by rw [e_s6]; exact hW
  refine x_aload_n C hl dX2_begin_25 rfl ?_
  refine lv_iconst (v := (-1 : Int32)) hx hb dX2_begin_26 (by decide) ?_
  refine x_putI C hW hS (t := 2) (k := 11) t1 kl_2 (by decide) fl_X2_28 rfl rfl rfl rfl dX2_begin_27 (fun H locs hW hS => ?_)
  obtain ⟨s7, e_s7⟩ : ∃ z : Mem, z = (sI s6 l0 11 (-1 : Int32)) := ⟨_, rfl⟩
  replace h := h s7 e_s7
  replace hW : Wd G D tc b0 s7 H := by rw [e_s7]; exact hW
  exact r_v C hr hW hS h dX2_begin_30
theorem T_X2_begin (l : Launch) {G : Lay} {D : va_G} {tc : Nat → ClassId} {b0 : Nat} (l0 : Nat) (l1 : Int64) (l3 : Int32) (σ : Mem) (Qx : Mem → Prop) (h : X_X2_begin G Qx l0 l1 l3 σ) : MV l yX2_begin cX2_begin 4 ((none : Option FieldType)) rm_X2_begin G D tc b0 [rv b0 l0, .long l1, .int l3] σ Qx :=
  x_entry (y := yX2_begin) [.inr (.inr l0), .inr (.inl l1), .inl l3] 0 (by decide) (Nat.le_of_ble_eq_true rfl) (fun p e s m args below meth c ls C hr hW hl => t_X2_begin_0 C hr va_S.rf hW (hl.keep [true, true, false, true] rfl) h)
/-! X6_addMember -/
set_option maxRecDepth 20000 in
set_option maxHeartbeats 4000000 in
theorem t_X6_addMember_0 {p : Program} {l : Launch} {e : Env} {s : State} {m : MethodId} {args : Array Value} {below : List Frame} {meth : Method} {c : Code} {H : Heap} {locs : List Loc} {D : va_G} {tc : Nat → ClassId} {b0 : Nat} {ls : Array Slot} {G : Lay} {Qx : Nat → Mem → Prop} {l0 : Nat} {l1 : Nat} {l2 : Int64}  {σ : Mem} (C : Cx p s m args meth c cX6_addMember RX6 5 D tc b0) (hr : meth.sig.returnType = (some (FieldType.object "BeeRegister$Member"))) (hS : va_S (AA b0) s.heap H locs) (hW : Wd G D tc b0 σ H) (hl : hL b0 ls 5 [some (.inr (.inr l0)), some (.inr (.inr l1)), some (.inr (.inl l2)), none, none]) (h : X_X6_addMember_0 G Qx l0 l1 l2  σ) : W p l e rm_X6_addMember s m args below meth c H locs 0 0 (MQ below (va_Qq (fun o u => ∃ r, o = ro b0 r ∧ Qx r u) (fun u t => Pw G D tc b0 u t) (AA b0)) args s 0 0 (AA b0)) (F0 m 0 ls []) := by
  have hx := C.1
  have hb := C.2.1
  unfold X_X6_addMember_0 at h
  refine x_aload_n C hl dX6_addMember_0 rfl ?_
  have t1 := h.1
  replace h := h.2
  refine x_get C hW (t := 6) (k := 3) t1 kl_6 (by decide) fl_X6_19 (v := rv b0 (mR σ l0 3)) rfl dX6_addMember_1 ?_
  refine x_aload_n C hl dX6_addMember_4 rfl ?_
  refine x_get C hW (t := 6) (k := 2) t1 kl_6 (by decide) fl_X6_33 (v := .int (mI σ l0 2)) rfl dX6_addMember_5 ?_
  have t2 := h.1
  replace h := h.2
  have v3 := h.1
  replace h := h.2
  refine x_aald C hW (t := 104) (t0 := 5) t2 (by decide) rfl v3 dX6_addMember_8 ?_
  refine x_astore C hl dX6_addMember_9 (by decide) rfl (fun ls hl => ?_)
  refine x_aload_n C hl dX6_addMember_11 rfl ?_
  refine lv_dup hx hb dX6_addMember_12 (rv_cat _ _) ?_
  refine x_get C hW (t := 6) (k := 2) t1 kl_6 (by decide) fl_X6_33 (v := .int (mI σ l0 2)) rfl dX6_addMember_13 ?_
  refine lv_iconst (v := (1 : Int32)) hx hb dX6_addMember_16 (by decide) ?_
  refine lv_iadd hx hb dX6_addMember_17 ?_
  refine x_putI C hW hS (t := 6) (k := 2) t1 kl_6 (by decide) fl_X6_33 rfl rfl rfl rfl dX6_addMember_18 (fun H locs hW hS => ?_)
  obtain ⟨s4, e_s4⟩ : ∃ z : Mem, z = (sI σ l0 2 ((mI σ l0 2) + (1 : Int32))) := ⟨_, rfl⟩
  replace h := h s4 e_s4
  replace hW : Wd G D tc b0 s4 H := by rw [e_s4]; exact hW
  refine x_aload C hl dX6_addMember_21 rfl ?_
  refine x_lload_n C hl dX6_addMember_23 rfl ?_
  refine x_aload_n C hl dX6_addMember_24 rfl ?_
  refine x_get C hW (t := 6) (k := 0) t1 kl_6 (by decide) fl_X6_29 (v := .int (mI s4 l0 0)) rfl dX6_addMember_25 ?_
  refine lv_iconst (v := (1 : Int32)) hx hb dX6_addMember_28 (by decide) ?_
  refine lv_isub hx hb dX6_addMember_29 ?_
  have t5 := h.1
  replace h := h.2
  refine y_v (x_run (As := [.long l2, .int ((mI s4 l0 0) - (1 : Int32))]) C hW hS (T_X2_begin l (mR σ (mR σ l0 3) (mI σ l0 2).toNatClampNeg) l2 ((mI s4 l0 0) - (1 : Int32)) s4 _ h) t5 kl_2 (CW.of yv_X2_begin ml_X6_76) ⟨rfl, rfl, ⟨by decide, by decide⟩, by decide, by decide⟩ rfl hl.1 rfl (by decide) dX6_addMember_30) hS (fun s6 H locs h hW hS => ?_)
  refine x_aload_n C hl dX6_addMember_33 rfl ?_
  have t7 := h.1
  replace h := h.2
  refine x_get C hW (t := 1) (k := 5) t7 kl_1 (by decide) fl_X6_49 (v := rv b0 (mR s6 l1 5)) rfl dX6_addMember_34 ?_
  refine x_aload_n C hl dX6_addMember_37 rfl ?_
  refine x_get C hW (t := 1) (k := 4) t7 kl_1 (by decide) fl_X6_46 (v := .int (mI s6 l1 4)) rfl dX6_addMember_38 ?_
  refine x_aload C hl dX6_addMember_41 rfl ?_
  have t8 := h.1
  replace h := h.2
  have v9 := h.1
  replace h := h.2
  refine x_aast C hW hS (t := 104) (t0 := 5) (tv := 2) t8 (by decide) rfl t5 kl_2 v9 dX6_addMember_43 (fun H locs hW hS => ?_)
  obtain ⟨s10, e_s10⟩ : ∃ z : Mem, z = (sR s6 (mR s6 l1 5) (mI s6 l1 4).toNatClampNeg (mR σ (mR σ l0 3) (mI σ l0 2).toNatClampNeg)) := ⟨_, rfl⟩
  replace h := h s10 e_s10
  replace hW : Wd G D tc b0 s10 H := by rw [e_s10]; exact hW
  refine x_aload_n C hl dX6_addMember_44 rfl ?_
  refine lv_dup hx hb dX6_addMember_45 (rv_cat _ _) ?_
  refine x_get C hW (t := 1) (k := 4) t7 kl_1 (by decide) fl_X6_46 (v := .int (mI s10 l1 4)) rfl dX6_addMember_46 ?_
  refine lv_iconst (v := (1 : Int32)) hx hb dX6_addMember_49 (by decide) ?_
  refine lv_iadd hx hb dX6_addMember_50 ?_
  refine x_putI C hW hS (t := 1) (k := 4) t7 kl_1 (by decide) fl_X6_46 rfl rfl rfl rfl dX6_addMember_51 (fun H locs hW hS => ?_)
  obtain ⟨s11, e_s11⟩ : ∃ z : Mem, z = (sI s10 l1 4 ((mI s10 l1 4) + (1 : Int32))) := ⟨_, rfl⟩
  replace h := h s11 e_s11
  replace hW : Wd G D tc b0 s11 H := by rw [e_s11]; exact hW
  refine x_aload C hl dX6_addMember_54 rfl ?_
  exact r_r C hr hW hS h dX6_addMember_56
theorem T_X6_addMember (l : Launch) {G : Lay} {D : va_G} {tc : Nat → ClassId} {b0 : Nat} (l0 : Nat) (l1 : Nat) (l2 : Int64) (σ : Mem) (Qx : Nat → Mem → Prop) (h : X_X6_addMember G Qx l0 l1 l2 σ) : MR l yX6_addMember cX6_addMember 5 ((some (FieldType.object "BeeRegister$Member"))) rm_X6_addMember G D tc b0 [rv b0 l0, rv b0 l1, .long l2] σ Qx :=
  x_entry (y := yX6_addMember) [.inr (.inr l0), .inr (.inr l1), .inr (.inl l2)] 1 (by decide) (Nat.le_of_ble_eq_true rfl) (fun p e s m args below meth c ls C hr hW hl => t_X6_addMember_0 C hr va_S.rf hW (hl.keep [true, true, true, false, false] rfl) h)
/-! X8_placeNow -/
set_option maxRecDepth 20000 in
set_option maxHeartbeats 4000000 in
theorem t_X8_placeNow_0 {p : Program} {l : Launch} {e : Env} {s : State} {m : MethodId} {args : Array Value} {below : List Frame} {meth : Method} {c : Code} {H : Heap} {locs : List Loc} {D : va_G} {tc : Nat → ClassId} {b0 : Nat} {ls : Array Slot} {G : Lay} {Qx : Int32 → Mem → Prop} {l0 : Nat}  {σ : Mem} (C : Cx p s m args meth c cX8_placeNow RX8 1 D tc b0) (hr : meth.sig.returnType = (some FieldType.int)) (hS : va_S (AA b0) s.heap H locs) (hW : Wd G D tc b0 σ H) (hl : hL b0 ls 1 [some (.inr (.inr l0))]) (h : X_X8_placeNow_0 G Qx l0  σ) : W p l e rm_X8_placeNow s m args below meth c H locs 0 0 (MQ below (va_Qi Qx (fun u t => Pw G D tc b0 u t) (AA b0)) args s 0 0 (AA b0)) (F0 m 0 ls []) := by
  have hx := C.1
  have hb := C.2.1
  unfold X_X8_placeNow_0 at h
  refine x_aload_n C hl dX8_placeNow_0 rfl ?_
  have t1 := h.1
  replace h := h.2
  refine x_get C hW (t := 8) (k := 1) t1 kl_8 (by decide) fl_X8_15 (v := rv b0 (mR σ l0 1)) rfl dX8_placeNow_1 ?_
  refine x_aload_n C hl dX8_placeNow_4 rfl ?_
  refine x_get C hW (t := 8) (k := 4) t1 kl_8 (by decide) fl_X8_29 (v := .int (mI σ l0 4)) rfl dX8_placeNow_5 ?_
  have t2 := h.1
  replace h := h.2
  have v3 := h.1
  replace h := h.2
  refine x_iald C hW t2 v3 dX8_placeNow_8 ?_
  exact r_i C hr hW hS h dX8_placeNow_9
theorem T_X8_placeNow (l : Launch) {G : Lay} {D : va_G} {tc : Nat → ClassId} {b0 : Nat} (l0 : Nat) (σ : Mem) (Qx : Int32 → Mem → Prop) (h : X_X8_placeNow G Qx l0 σ) : MI l yX8_placeNow cX8_placeNow 1 ((some FieldType.int)) rm_X8_placeNow G D tc b0 [rv b0 l0] σ Qx :=
  x_entry (y := yX8_placeNow) [.inr (.inr l0)] 0 (by decide) (Nat.le_of_ble_eq_true rfl) (fun p e s m args below meth c ls C hr hW hl => t_X8_placeNow_0 C hr va_S.rf hW (hl.keep [true] rfl) h)
/-! X0_readTarget -/
set_option maxRecDepth 20000 in
set_option maxHeartbeats 4000000 in
theorem t_X0_readTarget_0 {p : Program} {l : Launch} {e : Env} {s : State} {m : MethodId} {args : Array Value} {below : List Frame} {meth : Method} {c : Code} {H : Heap} {locs : List Loc} {D : va_G} {tc : Nat → ClassId} {b0 : Nat} {ls : Array Slot} {G : Lay} {Qx : Int32 → Mem → Prop} {l0 : Nat} {l1 : Nat}  {σ : Mem} (C : Cx p s m args meth c cX0_readTarget RX0 2 D tc b0) (hr : meth.sig.returnType = (some FieldType.boolean)) (hS : va_S (AA b0) s.heap H locs) (hW : Wd G D tc b0 σ H) (hl : hL b0 ls 2 [some (.inr (.inr l0)), some (.inr (.inr l1))]) (h : X_X0_readTarget_0 G Qx l0 l1  σ) : W p l e rm_X0_readTarget s m args below meth c H locs 0 0 (MQ below (va_Qi Qx (fun u t => Pw G D tc b0 u t) (AA b0)) args s 0 0 (AA b0)) (F0 m 0 ls []) := by
  have hx := C.1
  have hb := C.2.1
  unfold X_X0_readTarget_0 at h
  refine x_aload_n C hl dX0_readTarget_0 rfl ?_
  have t1 := h.1
  replace h := h.2
  refine x_get C hW (t := 0) (k := 0) t1 kl_0 (by decide) fl_X0_9 (v := rv b0 (mR σ l0 0)) rfl dX0_readTarget_1 ?_
  have t2 := h.1
  replace h := h.2
  refine y_i (x_run (As := []) C hW hS (T_X8_isName l (mR σ l0 0) σ _ h) t2 kl_8 (CW.of yv_X8_isName ml_X0_52) ⟨rfl, rfl, ⟨by decide, by decide⟩, by decide, by decide⟩ rfl hl.1 rfl (by decide) dX0_readTarget_4) hS (fun w4 s3 H locs h hW hS => ?_)
  refine lv_if_ne hx hb dX0_readTarget_7 (tgt := 18) rfl (fun hc => ?_) (fun hc => ?_)
  · replace h := h.2 hc
    refine x_aload_n C hl dX0_readTarget_18 rfl ?_
    refine x_aload_n C hl dX0_readTarget_19 rfl ?_
    refine x_get C hW (t := 0) (k := 0) t1 kl_0 (by decide) fl_X0_9 (v := rv b0 (mR s3 l0 0)) rfl dX0_readTarget_20 ?_
    have t5 := h.1
    replace h := h.2
    refine y_l (x_run (As := []) C hW hS (T_X8_word l (mR s3 l0 0) s3 _ h) t5 kl_8 (CW.of yv_X8_word ml_X0_58) ⟨rfl, rfl, ⟨by decide, by decide⟩, by decide, by decide⟩ rfl hl.1 rfl (by simp [rv_cat, cat_i, cat_l]) dX0_readTarget_23) hS (fun w7 s6 H locs h hW hS => ?_)
    have t8 := h.1
    replace h := h.2
    refine x_putJ C hW hS (t := 2) (k := 6) t8 kl_2 (by decide) fl_X0_238 rfl rfl rfl rfl dX0_readTarget_26 (fun H locs hW hS => ?_)
    obtain ⟨s9, e_s9⟩ : ∃ z : Mem, z = (sJ s6 l1 6 w7) := ⟨_, rfl⟩
    replace h := h s9 e_s9
    replace hW : Wd G D tc b0 s9 H := by rw [e_s9]; exact hW
    refine x_aload_n C hl dX0_readTarget_29 rfl ?_
    refine x_aload_n C hl dX0_readTarget_30 rfl ?_
    refine x_get C hW (t := 0) (k := 0) t1 kl_0 (by decide) fl_X0_9 (v := rv b0 (mR s9 l0 0)) rfl dX0_readTarget_31 ?_
    have t10 := h.1
    replace h := h.2
    refine y_i (x_run (As := []) C hW hS (T_X8_placeNow l (mR s9 l0 0) s9 _ h) t10 kl_8 (CW.of yv_X8_placeNow ml_X0_232) ⟨rfl, rfl, ⟨by decide, by decide⟩, by decide, by decide⟩ rfl hl.1 rfl (by simp [rv_cat, cat_i, cat_l]) dX0_readTarget_34) hS (fun w12 s11 H locs h hW hS => ?_)
    refine x_putI C hW hS (t := 2) (k := 7) t8 kl_2 (by decide) fl_X0_241 rfl rfl rfl rfl dX0_readTarget_37 (fun H locs hW hS => ?_)
    obtain ⟨s13, e_s13⟩ : ∃ z : Mem, z = (sI s11 l1 7 w12) := ⟨_, rfl⟩
    replace h := h s13 e_s13
    replace hW : Wd G D tc b0 s13 H := by rw [e_s13]; exact hW
    refine x_aload_n C hl dX0_readTarget_40 rfl ?_
    refine x_get C hW (t := 0) (k := 0) t1 kl_0 (by decide) fl_X0_9 (v := rv b0 (mR s13 l0 0)) rfl dX0_readTarget_41 ?_
    have t14 := h.1
    replace h := h.2
    refine y_v (x_run (As := []) C hW hS (T_X8_pass l (mR s13 l0 0) s13 _ h) t14 kl_8 (CW.of yv_X8_pass ml_X0_74) ⟨rfl, rfl, ⟨by decide, by decide⟩, by decide, by decide⟩ rfl hl.1 rfl (by decide) dX0_readTarget_44) hS (fun s15 H locs h hW hS => ?_)
    refine lv_iconst (v := (1 : Int32)) hx hb dX0_readTarget_47 (by decide) ?_
    exact r_z C hr hW hS h.1 h.2 dX0_readTarget_48
  · replace h := h.1 hc
    refine x_aload_n C hl dX0_readTarget_10 rfl ?_
    refine x_get C hW (t := 0) (k := 0) t1 kl_0 (by decide) fl_X0_9 (v := rv b0 (mR s3 l0 0)) rfl dX0_readTarget_11 ?_
    have t16 := h.1
    replace h := h.2
    refine y_i (x_run (As := []) C hW hS (T_X8_misplaced l (mR s3 l0 0) s3 _ h) t16 kl_8 (CW.of yv_X8_misplaced ml_X0_55) ⟨rfl, rfl, ⟨by decide, by decide⟩, by decide, by decide⟩ rfl hl.1 rfl (by decide) dX0_readTarget_14) hS (fun w18 s17 H locs h hW hS => ?_)
    exact r_z C hr hW hS h.1 h.2 dX0_readTarget_17
theorem T_X0_readTarget (l : Launch) {G : Lay} {D : va_G} {tc : Nat → ClassId} {b0 : Nat} (l0 : Nat) (l1 : Nat) (σ : Mem) (Qx : Int32 → Mem → Prop) (h : X_X0_readTarget G Qx l0 l1 σ) : MI l yX0_readTarget cX0_readTarget 2 ((some FieldType.boolean)) rm_X0_readTarget G D tc b0 [rv b0 l0, rv b0 l1] σ Qx :=
  x_entry (y := yX0_readTarget) [.inr (.inr l0), .inr (.inr l1)] 0 (by decide) (Nat.le_of_ble_eq_true rfl) (fun p e s m args below meth c ls C hr hW hl => t_X0_readTarget_0 C hr va_S.rf hW (hl.keep [true, true] rfl) h)
/-! X0_takeFlag -/
set_option maxRecDepth 20000 in
set_option maxHeartbeats 4000000 in
theorem t_X0_takeFlag_22 {p : Program} {l : Launch} {e : Env} {s : State} {m : MethodId} {args : Array Value} {below : List Frame} {meth : Method} {c : Code} {H : Heap} {locs : List Loc} {D : va_G} {tc : Nat → ClassId} {b0 : Nat} {ls : Array Slot} {G : Lay} {Qx : Mem → Prop}   {σ : Mem} (C : Cx p s m args meth c cX0_takeFlag RX0 5 D tc b0) (hr : meth.sig.returnType = (none : Option FieldType)) (hS : va_S (AA b0) s.heap H locs) (hW : Wd G D tc b0 σ H) (hl : hL b0 ls 5 [none, none, none, none, none]) (h : X_X0_takeFlag_22 G Qx   σ) : W p l e rm_X0_takeFlag s m args below meth c H locs 0 0 (MQ below (va_Qv Qx (fun u t => Pw G D tc b0 u t) (AA b0)) args s 0 0 (AA b0)) (F0 m 22 ls []) := by
  have hx := C.1
  have hb := C.2.1
  unfold X_X0_takeFlag_22 at h
  exact r_v C hr hW hS h dX0_takeFlag_22
set_option maxRecDepth 20000 in
set_option maxHeartbeats 4000000 in
theorem t_X0_takeFlag_0 {p : Program} {l : Launch} {e : Env} {s : State} {m : MethodId} {args : Array Value} {below : List Frame} {meth : Method} {c : Code} {H : Heap} {locs : List Loc} {D : va_G} {tc : Nat → ClassId} {b0 : Nat} {ls : Array Slot} {G : Lay} {Qx : Mem → Prop} {l0 : Nat} {l1 : Nat} {l2 : Int64} {l4 : Int32}  {σ : Mem} (C : Cx p s m args meth c cX0_takeFlag RX0 5 D tc b0) (hr : meth.sig.returnType = (none : Option FieldType)) (hS : va_S (AA b0) s.heap H locs) (hW : Wd G D tc b0 σ H) (hl : hL b0 ls 5 [some (.inr (.inr l0)), some (.inr (.inr l1)), some (.inr (.inl l2)), none, some (.inl l4)]) (h : X_X0_takeFlag_0 G Qx l0 l1 l2 l4  σ) : W p l e rm_X0_takeFlag s m args below meth c H locs 0 0 (MQ below (va_Qv Qx (fun u t => Pw G D tc b0 u t) (AA b0)) args s 0 0 (AA b0)) (F0 m 0 ls []) := by
  have hx := C.1
  have hb := C.2.1
  unfold X_X0_takeFlag_0 at h
  refine x_aload_n C hl dX0_takeFlag_0 rfl ?_
  have t1 := h.1
  replace h := h.2
  refine x_get C hW (t := 0) (k := 0) t1 kl_0 (by decide) fl_X0_9 (v := rv b0 (mR σ l0 0)) rfl dX0_takeFlag_1 ?_
  refine x_lload_n C hl dX0_takeFlag_4 rfl ?_
  have t2 := h.1
  replace h := h.2
  refine y_i (x_run (As := [.long l2]) C hW hS (T_X8_takes l (mR σ l0 0) l2 σ _ h) t2 kl_8 (CW.of yv_X8_takes ml_X0_84) ⟨rfl, rfl, ⟨by decide, by decide⟩, by decide, by decide⟩ rfl hl.1 rfl (by decide) dX0_takeFlag_5) hS (fun w4 s3 H locs h hW hS => ?_)
  refine lv_if_eq hx hb dX0_takeFlag_8 (tgt := 22) rfl (fun hc => ?_) (fun hc => ?_)
  · replace h := h.1 hc
    exact t_X0_takeFlag_22 C hr hS hW (hl.keep [false, false, false, false, false] rfl) h
  · replace h := h.2 hc
    refine x_aload_n C hl dX0_takeFlag_11 rfl ?_
    refine lv_dup hx hb dX0_takeFlag_12 (rv_cat _ _) ?_
    have t5 := h.1
    replace h := h.2
    refine x_get C hW (t := 2) (k := 3) t5 kl_2 (by decide) fl_X0_244 (v := .int (mI s3 l1 3)) rfl dX0_takeFlag_13 ?_
    refine x_iload C hl dX0_takeFlag_16 rfl ?_
    refine lv_ior hx hb dX0_takeFlag_18 ?_
    refine x_putI C hW hS (t := 2) (k := 3) t5 kl_2 (by decide) fl_X0_244 rfl rfl rfl rfl dX0_takeFlag_19 (fun H locs hW hS => ?_)
    obtain ⟨s6, e_s6⟩ : ∃ z : Mem, z = (sI s3 l1 3 ((mI s3 l1 3) ||| l4)) := ⟨_, rfl⟩
    replace h := h s6 e_s6
    replace hW : Wd G D tc b0 s6 H := by rw [e_s6]; exact hW
    exact t_X0_takeFlag_22 C hr hS hW (hl.keep [false, false, false, false, false] rfl) h
theorem T_X0_takeFlag (l : Launch) {G : Lay} {D : va_G} {tc : Nat → ClassId} {b0 : Nat} (l0 : Nat) (l1 : Nat) (l2 : Int64) (l4 : Int32) (σ : Mem) (Qx : Mem → Prop) (h : X_X0_takeFlag G Qx l0 l1 l2 l4 σ) : MV l yX0_takeFlag cX0_takeFlag 5 ((none : Option FieldType)) rm_X0_takeFlag G D tc b0 [rv b0 l0, rv b0 l1, .long l2, .int l4] σ Qx :=
  x_entry (y := yX0_takeFlag) [.inr (.inr l0), .inr (.inr l1), .inr (.inl l2), .inl l4] 0 (by decide) (Nat.le_of_ble_eq_true rfl) (fun p e s m args below meth c ls C hr hW hl => t_X0_takeFlag_0 C hr va_S.rf hW (hl.keep [true, true, true, false, true] rfl) h)
/-! X0_readReference -/
set_option maxRecDepth 20000 in
set_option maxHeartbeats 4000000 in
theorem t_X0_readReference_0 {p : Program} {l : Launch} {e : Env} {s : State} {m : MethodId} {args : Array Value} {below : List Frame} {meth : Method} {c : Code} {H : Heap} {locs : List Loc} {D : va_G} {tc : Nat → ClassId} {b0 : Nat} {ls : Array Slot} {G : Lay} {Qx : Int32 → Mem → Prop} {l0 : Nat} {l1 : Nat}  {σ : Mem} (C : Cx p s m args meth c cX0_readReference RX0 2 D tc b0) (hr : meth.sig.returnType = (some FieldType.boolean)) (hS : va_S (AA b0) s.heap H locs) (hW : Wd G D tc b0 σ H) (hl : hL b0 ls 2 [some (.inr (.inr l0)), some (.inr (.inr l1))]) (h : X_X0_readReference_0 G Qx l0 l1  σ) : W p l e rm_X0_readReference s m args below meth c H locs 0 0 (MQ below (va_Qi Qx (fun u t => Pw G D tc b0 u t) (AA b0)) args s 0 0 (AA b0)) (F0 m 0 ls []) := by
  have hx := C.1
  have hb := C.2.1
  unfold X_X0_readReference_0 at h
  refine x_aload_n C hl dX0_readReference_0 rfl ?_
  refine lv_iconst (v := (4 : Int32)) hx hb dX0_readReference_1 (by decide) ?_
  have t1 := h.1
  replace h := h.2
  refine x_putI C hW hS (t := 2) (k := 2) t1 kl_2 (by decide) fl_X0_132 rfl rfl rfl rfl dX0_readReference_2 (fun H locs hW hS => ?_)
  obtain ⟨s2, e_s2⟩ : ∃ z : Mem, z = (sI σ l1 2 (4 : Int32)) := ⟨_, rfl⟩
  replace h := h s2 e_s2
  replace hW : Wd G D tc b0 s2 H := by rw [e_s2]; exact hW
  refine x_aload_n C hl dX0_readReference_5 rfl ?_
  refine x_aload_n C hl dX0_readReference_6 rfl ?_
  have t3 := h.1
  replace h := h.2
  refine y_i (x_run (As := [rv b0 l1]) C hW hS (T_X0_readTarget l l0 l1 s2 _ h) t3 kl_0 (CW.of yv_X0_readTarget ml_X0_219) ⟨rfl, rfl, ⟨by decide, by decide⟩, by decide, by decide⟩ rfl hl.1 rfl (by decide) dX0_readReference_7) hS (fun w5 s4 H locs h hW hS => ?_)
  refine lv_if_ne hx hb dX0_readReference_10 (tgt := 15) rfl (fun hc => ?_) (fun hc => ?_)
  · replace h := h.2 hc
    refine x_aload_n C hl dX0_readReference_15 rfl ?_
    refine x_aload_n C hl dX0_readReference_16 rfl ?_
    refine lv_ldc2 (own := RX0) (v := (1836413812 : Int64)) hx hb C.2.2.2.1 (C.2.2.2.2.1 _ (gc4 82 rfl rfl)) dX0_readReference_17 ?_
    refine lv_iconst (v := (2 : Int32)) hx hb dX0_readReference_20 (by decide) ?_
    refine y_v (x_run (As := [rv b0 l1, .long (1836413812 : Int64), .int (2 : Int32)]) C hW hS (T_X0_takeFlag l l0 l1 (1836413812 : Int64) (2 : Int32) s4 _ h) t3 kl_0 (CW.of yv_X0_takeFlag ml_X0_194) ⟨rfl, rfl, ⟨by decide, by decide⟩, by decide, by decide⟩ rfl hl.1 rfl (by decide) dX0_readReference_21) hS (fun s6 H locs h hW hS => ?_)
    refine x_aload_n C hl dX0_readReference_24 rfl ?_
    refine x_aload_n C hl dX0_readReference_25 rfl ?_
    refine lv_ldc2 (own := RX0) (v := (478745093476 : Int64)) hx hb C.2.2.2.1 (C.2.2.2.2.1 _ (gc4 87 rfl rfl)) dX0_readReference_26 ?_
    refine lv_iconst (v := (4 : Int32)) hx hb dX0_readReference_29 (by decide) ?_
    refine y_v (x_run (As := [rv b0 l1, .long (478745093476 : Int64), .int (4 : Int32)]) C hW hS (T_X0_takeFlag l l0 l1 (478745093476 : Int64) (4 : Int32) s6 _ h) t3 kl_0 (CW.of yv_X0_takeFlag ml_X0_194) ⟨rfl, rfl, ⟨by decide, by decide⟩, by decide, by decide⟩ rfl hl.1 rfl (by decide) dX0_readReference_30) hS (fun s7 H locs h hW hS => ?_)
    refine lv_iconst (v := (1 : Int32)) hx hb dX0_readReference_33 (by decide) ?_
    exact r_z C hr hW hS h.1 h.2 dX0_readReference_34
  · replace h := h.1 hc
    refine lv_iconst (v := (0 : Int32)) hx hb dX0_readReference_13 (by decide) ?_
    exact r_z C hr hW hS h.1 h.2 dX0_readReference_14
theorem T_X0_readReference (l : Launch) {G : Lay} {D : va_G} {tc : Nat → ClassId} {b0 : Nat} (l0 : Nat) (l1 : Nat) (σ : Mem) (Qx : Int32 → Mem → Prop) (h : X_X0_readReference G Qx l0 l1 σ) : MI l yX0_readReference cX0_readReference 2 ((some FieldType.boolean)) rm_X0_readReference G D tc b0 [rv b0 l0, rv b0 l1] σ Qx :=
  x_entry (y := yX0_readReference) [.inr (.inr l0), .inr (.inr l1)] 0 (by decide) (Nat.le_of_ble_eq_true rfl) (fun p e s m args below meth c ls C hr hW hl => t_X0_readReference_0 C hr va_S.rf hW (hl.keep [true, true] rfl) h)
/-! X0_readList -/
set_option maxRecDepth 20000 in
set_option maxHeartbeats 4000000 in
theorem t_X0_readList_26 {p : Program} {l : Launch} {e : Env} {s : State} {m : MethodId} {args : Array Value} {below : List Frame} {meth : Method} {c : Code} {H : Heap} {locs : List Loc} {D : va_G} {tc : Nat → ClassId} {b0 : Nat} {ls : Array Slot} {G : Lay} {Qx : Int32 → Mem → Prop}   {σ : Mem} (C : Cx p s m args meth c cX0_readList RX0 2 D tc b0) (hr : meth.sig.returnType = (some FieldType.boolean)) (hS : va_S (AA b0) s.heap H locs) (hW : Wd G D tc b0 σ H) (hl : hL b0 ls 2 [none, none]) (h : X_X0_readList_26 G Qx   σ) : W p l e rm_X0_readList s m args below meth c H locs 0 0 (MQ below (va_Qi Qx (fun u t => Pw G D tc b0 u t) (AA b0)) args s 0 0 (AA b0)) (F0 m 26 ls []) := by
  have hx := C.1
  have hb := C.2.1
  unfold X_X0_readList_26 at h
  refine lv_iconst (v := (0 : Int32)) hx hb dX0_readList_26 (by decide) ?_
  exact r_z C hr hW hS h.1 h.2 dX0_readList_27
set_option maxRecDepth 20000 in
set_option maxHeartbeats 4000000 in
theorem t_X0_readList_0 {p : Program} {l : Launch} {e : Env} {s : State} {m : MethodId} {args : Array Value} {below : List Frame} {meth : Method} {c : Code} {H : Heap} {locs : List Loc} {D : va_G} {tc : Nat → ClassId} {b0 : Nat} {ls : Array Slot} {G : Lay} {Qx : Int32 → Mem → Prop} {l0 : Nat} {l1 : Nat}  {σ : Mem} (C : Cx p s m args meth c cX0_readList RX0 2 D tc b0) (hr : meth.sig.returnType = (some FieldType.boolean)) (hS : va_S (AA b0) s.heap H locs) (hW : Wd G D tc b0 σ H) (hl : hL b0 ls 2 [some (.inr (.inr l0)), some (.inr (.inr l1))]) (h : X_X0_readList_0 G Qx l0 l1  σ) : W p l e rm_X0_readList s m args below meth c H locs 0 0 (MQ below (va_Qi Qx (fun u t => Pw G D tc b0 u t) (AA b0)) args s 0 0 (AA b0)) (F0 m 0 ls []) := by
  have hx := C.1
  have hb := C.2.1
  unfold X_X0_readList_0 at h
  refine x_aload_n C hl dX0_readList_0 rfl ?_
  refine lv_iconst (v := (5 : Int32)) hx hb dX0_readList_1 (by decide) ?_
  have t1 := h.1
  replace h := h.2
  refine x_putI C hW hS (t := 2) (k := 2) t1 kl_2 (by decide) fl_X0_132 rfl rfl rfl rfl dX0_readList_2 (fun H locs hW hS => ?_)
  obtain ⟨s2, e_s2⟩ : ∃ z : Mem, z = (sI σ l1 2 (5 : Int32)) := ⟨_, rfl⟩
  replace h := h s2 e_s2
  replace hW : Wd G D tc b0 s2 H := by rw [e_s2]; exact hW
  refine x_aload_n C hl dX0_readList_5 rfl ?_
  refine x_aload_n C hl dX0_readList_6 rfl ?_
  have t3 := h.1
  replace h := h.2
  refine y_i (x_run (As := [rv b0 l1]) C hW hS (T_X0_readTarget l l0 l1 s2 _ h) t3 kl_0 (CW.of yv_X0_readTarget ml_X0_219) ⟨rfl, rfl, ⟨by decide, by decide⟩, by decide, by decide⟩ rfl hl.1 rfl (by decide) dX0_readList_7) hS (fun w5 s4 H locs h hW hS => ?_)
  refine lv_if_eq hx hb dX0_readList_10 (tgt := 26) rfl (fun hc => ?_) (fun hc => ?_)
  · replace h := h.1 hc
    exact t_X0_readList_26 C hr hS hW (hl.keep [false, false] rfl) h
  · replace h := h.2 hc
    refine x_aload_n C hl dX0_readList_13 rfl ?_
    refine x_get C hW (t := 0) (k := 0) t3 kl_0 (by decide) fl_X0_9 (v := rv b0 (mR s4 l0 0)) rfl dX0_readList_14 ?_
    refine lv_ldc2 (own := RX0) (v := (25209 : Int64)) hx hb C.2.2.2.1 (C.2.2.2.2.1 _ (gc4 93 rfl rfl)) dX0_readList_17 ?_
    have t6 := h.1
    replace h := h.2
    refine y_i (x_run (As := [.long (25209 : Int64)]) C hW hS (T_X8_expects l (mR s4 l0 0) (25209 : Int64) s4 _ h) t6 kl_8 (CW.of yv_X8_expects ml_X0_48) ⟨rfl, rfl, ⟨by decide, by decide⟩, by decide, by decide⟩ rfl hl.1 rfl (by decide) dX0_readList_20) hS (fun w8 s7 H locs h hW hS => ?_)
    refine lv_if_ne hx hb dX0_readList_23 (tgt := 28) rfl (fun hc => ?_) (fun hc => ?_)
    · replace h := h.2 hc
      refine x_aload_n C hl dX0_readList_28 rfl ?_
      refine x_get C hW (t := 0) (k := 0) t3 kl_0 (by decide) fl_X0_9 (v := rv b0 (mR s7 l0 0)) rfl dX0_readList_29 ?_
      have t9 := h.1
      replace h := h.2
      refine y_i (x_run (As := []) C hW hS (T_X8_isName l (mR s7 l0 0) s7 _ h) t9 kl_8 (CW.of yv_X8_isName ml_X0_52) ⟨rfl, rfl, ⟨by decide, by decide⟩, by decide, by decide⟩ rfl hl.1 rfl (by decide) dX0_readList_32) hS (fun w11 s10 H locs h hW hS => ?_)
      refine lv_if_ne hx hb dX0_readList_35 (tgt := 46) rfl (fun hc => ?_) (fun hc => ?_)
      · replace h := h.2 hc
        refine x_aload_n C hl dX0_readList_46 rfl ?_
        refine x_aload_n C hl dX0_readList_47 rfl ?_
        refine x_get C hW (t := 0) (k := 0) t3 kl_0 (by decide) fl_X0_9 (v := rv b0 (mR s10 l0 0)) rfl dX0_readList_48 ?_
        have t12 := h.1
        replace h := h.2
        refine y_l (x_run (As := []) C hW hS (T_X8_word l (mR s10 l0 0) s10 _ h) t12 kl_8 (CW.of yv_X8_word ml_X0_58) ⟨rfl, rfl, ⟨by decide, by decide⟩, by decide, by decide⟩ rfl hl.1 rfl (by simp [rv_cat, cat_i, cat_l]) dX0_readList_51) hS (fun w14 s13 H locs h hW hS => ?_)
        refine x_putJ C hW hS (t := 2) (k := 9) t1 kl_2 (by decide) fl_X0_228 rfl rfl rfl rfl dX0_readList_54 (fun H locs hW hS => ?_)
        obtain ⟨s15, e_s15⟩ : ∃ z : Mem, z = (sJ s13 l1 9 w14) := ⟨_, rfl⟩
        replace h := h s15 e_s15
        replace hW : Wd G D tc b0 s15 H := by rw [e_s15]; exact hW
        refine x_aload_n C hl dX0_readList_57 rfl ?_
        refine x_aload_n C hl dX0_readList_58 rfl ?_
        refine x_get C hW (t := 0) (k := 0) t3 kl_0 (by decide) fl_X0_9 (v := rv b0 (mR s15 l0 0)) rfl dX0_readList_59 ?_
        have t16 := h.1
        replace h := h.2
        refine y_i (x_run (As := []) C hW hS (T_X8_placeNow l (mR s15 l0 0) s15 _ h) t16 kl_8 (CW.of yv_X8_placeNow ml_X0_232) ⟨rfl, rfl, ⟨by decide, by decide⟩, by decide, by decide⟩ rfl hl.1 rfl (by simp [rv_cat, cat_i, cat_l]) dX0_readList_62) hS (fun w18 s17 H locs h hW hS => ?_)
        refine x_putI C hW hS (t := 2) (k := 10) t1 kl_2 (by decide) fl_X0_235 rfl rfl rfl rfl dX0_readList_65 (fun H locs hW hS => ?_)
        obtain ⟨s19, e_s19⟩ : ∃ z : Mem, z = (sI s17 l1 10 w18) := ⟨_, rfl⟩
        replace h := h s19 e_s19
        replace hW : Wd G D tc b0 s19 H := by rw [e_s19]; exact hW
        refine x_aload_n C hl dX0_readList_68 rfl ?_
        refine x_get C hW (t := 0) (k := 0) t3 kl_0 (by decide) fl_X0_9 (v := rv b0 (mR s19 l0 0)) rfl dX0_readList_69 ?_
        have t20 := h.1
        replace h := h.2
        refine y_v (x_run (As := []) C hW hS (T_X8_pass l (mR s19 l0 0) s19 _ h) t20 kl_8 (CW.of yv_X8_pass ml_X0_74) ⟨rfl, rfl, ⟨by decide, by decide⟩, by decide, by decide⟩ rfl hl.1 rfl (by decide) dX0_readList_72) hS (fun s21 H locs h hW hS => ?_)
        refine x_aload_n C hl dX0_readList_75 rfl ?_
        refine x_aload_n C hl dX0_readList_76 rfl ?_
        refine lv_ldc2 (own := RX0) (v := (478745093476 : Int64)) hx hb C.2.2.2.1 (C.2.2.2.2.1 _ (gc4 87 rfl rfl)) dX0_readList_77 ?_
        refine lv_iconst (v := (4 : Int32)) hx hb dX0_readList_80 (by decide) ?_
        refine y_v (x_run (As := [rv b0 l1, .long (478745093476 : Int64), .int (4 : Int32)]) C hW hS (T_X0_takeFlag l l0 l1 (478745093476 : Int64) (4 : Int32) s21 _ h) t3 kl_0 (CW.of yv_X0_takeFlag ml_X0_194) ⟨rfl, rfl, ⟨by decide, by decide⟩, by decide, by decide⟩ rfl hl.1 rfl (by decide) dX0_readList_81) hS (fun s22 H locs h hW hS => ?_)
        refine lv_iconst (v := (1 : Int32)) hx hb dX0_readList_84 (by decide) ?_
        exact r_z C hr hW hS h.1 h.2 dX0_readList_85
      · replace h := h.1 hc
        refine x_aload_n C hl dX0_readList_38 rfl ?_
        refine x_get C hW (t := 0) (k := 0) t3 kl_0 (by decide) fl_X0_9 (v := rv b0 (mR s10 l0 0)) rfl dX0_readList_39 ?_
        have t23 := h.1
        replace h := h.2
        refine y_i (x_run (As := []) C hW hS (T_X8_misplaced l (mR s10 l0 0) s10 _ h) t23 kl_8 (CW.of yv_X8_misplaced ml_X0_55) ⟨rfl, rfl, ⟨by decide, by decide⟩, by decide, by decide⟩ rfl hl.1 rfl (by decide) dX0_readList_42) hS (fun w25 s24 H locs h hW hS => ?_)
        exact r_z C hr hW hS h.1 h.2 dX0_readList_45
    · replace h := h.1 hc
      exact t_X0_readList_26 C hr hS hW (hl.keep [false, false] rfl) h
theorem T_X0_readList (l : Launch) {G : Lay} {D : va_G} {tc : Nat → ClassId} {b0 : Nat} (l0 : Nat) (l1 : Nat) (σ : Mem) (Qx : Int32 → Mem → Prop) (h : X_X0_readList G Qx l0 l1 σ) : MI l yX0_readList cX0_readList 2 ((some FieldType.boolean)) rm_X0_readList G D tc b0 [rv b0 l0, rv b0 l1] σ Qx :=
  x_entry (y := yX0_readList) [.inr (.inr l0), .inr (.inr l1)] 0 (by decide) (Nat.le_of_ble_eq_true rfl) (fun p e s m args below meth c ls C hr hW hl => t_X0_readList_0 C hr va_S.rf hW (hl.keep [true, true] rfl) h)
/-! X6_nameNumber -/
set_option maxRecDepth 20000 in
set_option maxHeartbeats 4000000 in
theorem t_X6_nameNumber_3_n {p : Program} {l : Launch} {e : Env} {s : State} {m : MethodId} {args : Array Value} {below : List Frame} {meth : Method} {c : Code} {D : va_G} {tc : Nat → ClassId} {b0 : Nat} {G : Lay} {Qx : Int32 → Mem → Prop} {l0 : Nat} {l1 : Nat} {l2 : Int64} (C : Cx p s m args meth c cX6_nameNumber RX6 5 D tc b0) (hr : meth.sig.returnType = (some FieldType.int)) (n : Nat) : ∀ (l4 : Int32) (σ : Mem) (H : Heap) (locs : List Loc) (ls : Array Slot), va_S (AA b0) s.heap H locs → Wd G D tc b0 σ H → hL b0 ls 5 [some (.inr (.inr l0)), some (.inr (.inr l1)), some (.inr (.inl l2)), none, some (.inl l4)] → Lp (X_X6_nameNumber_3_s G Qx l0 l1 l2) n (l4, σ) → W p l e rm_X6_nameNumber s m args below meth c H locs 0 0 (MQ below (va_Qi Qx (fun u t => Pw G D tc b0 u t) (AA b0)) args s 0 0 (AA b0)) (F0 m 3 ls []) := by
  have hx := C.1
  have hb := C.2.1
  induction n with
  | zero => intro l4 σ H locs ls hS hW hl h; exact False.elim h
  | succ n hK3 =>
    intro l4 σ H locs ls hS hW hl h
    replace h : X_X6_nameNumber_3_s G Qx l0 l1 l2 (Lp (X_X6_nameNumber_3_s G Qx l0 l1 l2) n) (l4, σ) := h
    unfold X_X6_nameNumber_3_s at h
    refine x_iload C hl dX6_nameNumber_3 rfl ?_
    refine x_aload_n C hl dX6_nameNumber_5 rfl ?_
    have t1 := h.1
    replace h := h.2
    refine x_get C hW (t := 2) (k := 5) t1 kl_2 (by decide) fl_X6_63 (v := .int (mI σ l1 5)) rfl dX6_nameNumber_6 ?_
    refine lv_icmp_ge hx hb dX6_nameNumber_9 (tgt := 38) rfl (fun hc => ?_) (fun hc => ?_)
    · replace h := h.1 hc
      refine lv_iconst (v := (-1 : Int32)) hx hb dX6_nameNumber_38 (by decide) ?_
      exact r_i C hr hW hS h dX6_nameNumber_39
    · replace h := h.2 hc
      refine x_aload_n C hl dX6_nameNumber_12 rfl ?_
      have t2 := h.1
      replace h := h.2
      refine x_get C hW (t := 6) (k := 5) t2 kl_6 (by decide) fl_X6_23 (v := rv b0 (mR σ l0 5)) rfl dX6_nameNumber_13 ?_
      refine x_aload_n C hl dX6_nameNumber_16 rfl ?_
      refine x_get C hW (t := 2) (k := 4) t1 kl_2 (by decide) fl_X6_66 (v := .int (mI σ l1 4)) rfl dX6_nameNumber_17 ?_
      refine x_iload C hl dX6_nameNumber_20 rfl ?_
      refine lv_iadd hx hb dX6_nameNumber_22 ?_
      have t3 := h.1
      replace h := h.2
      have v4 := h.1
      replace h := h.2
      refine x_lald C hW t3 v4 dX6_nameNumber_23 ?_
      refine x_lload_n C hl dX6_nameNumber_24 rfl ?_
      refine W.lcmp hx hb dX6_nameNumber_25 ?_
      refine lv_if_ne hx hb dX6_nameNumber_26 (tgt := 32) rfl (fun hc => ?_) (fun hc => ?_)
      · replace h := h.2 hc
        refine x_iinc C hl dX6_nameNumber_32 rfl (v := (1 : Int32)) (by decide) (by decide) rfl (fun ls hl => ?_)
        refine lv_goto hx hb dX6_nameNumber_35 (tgt := 3) rfl ?_
        exact hK3 _ _ _ _ _ hS hW (hl.keep [true, true, true, false, true] rfl) h
      · replace h := h.1 hc
        refine x_iload C hl dX6_nameNumber_29 rfl ?_
        exact r_i C hr hW hS h dX6_nameNumber_31
set_option maxRecDepth 20000 in
set_option maxHeartbeats 4000000 in
theorem t_X6_nameNumber_3 {p : Program} {l : Launch} {e : Env} {s : State} {m : MethodId} {args : Array Value} {below : List Frame} {meth : Method} {c : Code} {H : Heap} {locs : List Loc} {D : va_G} {tc : Nat → ClassId} {b0 : Nat} {ls : Array Slot} {G : Lay} {Qx : Int32 → Mem → Prop} {l0 : Nat} {l1 : Nat} {l2 : Int64} {l4 : Int32}  {σ : Mem} (C : Cx p s m args meth c cX6_nameNumber RX6 5 D tc b0) (hr : meth.sig.returnType = (some FieldType.int)) (hS : va_S (AA b0) s.heap H locs) (hW : Wd G D tc b0 σ H) (hl : hL b0 ls 5 [some (.inr (.inr l0)), some (.inr (.inr l1)), some (.inr (.inl l2)), none, some (.inl l4)]) (h : X_X6_nameNumber_3 G Qx l0 l1 l2 l4 σ) : W p l e rm_X6_nameNumber s m args below meth c H locs 0 0 (MQ below (va_Qi Qx (fun u t => Pw G D tc b0 u t) (AA b0)) args s 0 0 (AA b0)) (F0 m 3 ls []) := by
  obtain ⟨n, h⟩ := h
  exact t_X6_nameNumber_3_n C hr n l4 σ H locs ls hS hW hl h
set_option maxRecDepth 20000 in
set_option maxHeartbeats 4000000 in
theorem t_X6_nameNumber_0 {p : Program} {l : Launch} {e : Env} {s : State} {m : MethodId} {args : Array Value} {below : List Frame} {meth : Method} {c : Code} {H : Heap} {locs : List Loc} {D : va_G} {tc : Nat → ClassId} {b0 : Nat} {ls : Array Slot} {G : Lay} {Qx : Int32 → Mem → Prop} {l0 : Nat} {l1 : Nat} {l2 : Int64}  {σ : Mem} (C : Cx p s m args meth c cX6_nameNumber RX6 5 D tc b0) (hr : meth.sig.returnType = (some FieldType.int)) (hS : va_S (AA b0) s.heap H locs) (hW : Wd G D tc b0 σ H) (hl : hL b0 ls 5 [some (.inr (.inr l0)), some (.inr (.inr l1)), some (.inr (.inl l2)), none, none]) (h : X_X6_nameNumber_0 G Qx l0 l1 l2  σ) : W p l e rm_X6_nameNumber s m args below meth c H locs 0 0 (MQ below (va_Qi Qx (fun u t => Pw G D tc b0 u t) (AA b0)) args s 0 0 (AA b0)) (F0 m 0 ls []) := by
  have hx := C.1
  have hb := C.2.1
  unfold X_X6_nameNumber_0 at h
  refine lv_iconst (v := (0 : Int32)) hx hb dX6_nameNumber_0 (by decide) ?_
  refine x_istore C hl dX6_nameNumber_1 (by decide) rfl (fun ls hl => ?_)
  exact t_X6_nameNumber_3 C hr hS hW (hl.keep [true, true, true, false, true] rfl) h
theorem T_X6_nameNumber (l : Launch) {G : Lay} {D : va_G} {tc : Nat → ClassId} {b0 : Nat} (l0 : Nat) (l1 : Nat) (l2 : Int64) (σ : Mem) (Qx : Int32 → Mem → Prop) (h : X_X6_nameNumber G Qx l0 l1 l2 σ) : MI l yX6_nameNumber cX6_nameNumber 5 ((some FieldType.int)) rm_X6_nameNumber G D tc b0 [rv b0 l0, rv b0 l1, .long l2] σ Qx :=
  x_entry (y := yX6_nameNumber) [.inr (.inr l0), .inr (.inr l1), .inr (.inl l2)] 1 (by decide) (Nat.le_of_ble_eq_true rfl) (fun p e s m args below meth c ls C hr hW hl => t_X6_nameNumber_0 C hr va_S.rf hW (hl.keep [true, true, true, false, false] rfl) h)
/-! X0_readNames -/
set_option maxRecDepth 20000 in
set_option maxHeartbeats 4000000 in
theorem t_X0_readNames_178 {p : Program} {l : Launch} {e : Env} {s : State} {m : MethodId} {args : Array Value} {below : List Frame} {meth : Method} {c : Code} {H : Heap} {locs : List Loc} {D : va_G} {tc : Nat → ClassId} {b0 : Nat} {ls : Array Slot} {G : Lay} {Qx : Int32 → Mem → Prop} {l0 : Nat}  {σ : Mem} (C : Cx p s m args meth c cX0_readNames RX0 4 D tc b0) (hr : meth.sig.returnType = (some FieldType.boolean)) (hS : va_S (AA b0) s.heap H locs) (hW : Wd G D tc b0 σ H) (hl : hL b0 ls 4 [some (.inr (.inr l0)), none, none, none]) (h : X_X0_readNames_178 G Qx l0  σ) : W p l e rm_X0_readNames s m args below meth c H locs 0 0 (MQ below (va_Qi Qx (fun u t => Pw G D tc b0 u t) (AA b0)) args s 0 0 (AA b0)) (F0 m 178 ls []) := by
  have hx := C.1
  have hb := C.2.1
  unfold X_X0_readNames_178 at h
  refine x_aload_n C hl dX0_readNames_178 rfl ?_
  have t1 := h.1
  replace h := h.2
  refine x_get C hW (t := 0) (k := 0) t1 kl_0 (by decide) fl_X0_9 (v := rv b0 (mR σ l0 0)) rfl dX0_readNames_179 ?_
  refine lv_ldc2 (own := RX0) (v := (41 : Int64)) hx hb C.2.2.2.1 (C.2.2.2.2.1 _ (gc4 107 rfl rfl)) dX0_readNames_182 ?_
  have t2 := h.1
  replace h := h.2
  refine y_i (x_run (As := [.long (41 : Int64)]) C hW hS (T_X8_expects l (mR σ l0 0) (41 : Int64) σ _ h) t2 kl_8 (CW.of yv_X8_expects ml_X0_48) ⟨rfl, rfl, ⟨by decide, by decide⟩, by decide, by decide⟩ rfl hl.1 rfl (by decide) dX0_readNames_185) hS (fun w4 s3 H locs h hW hS => ?_)
  exact r_z C hr hW hS h.1 h.2 dX0_readNames_188
set_option maxRecDepth 20000 in
set_option maxHeartbeats 4000000 in
theorem t_X0_readNames_20_n {p : Program} {l : Launch} {e : Env} {s : State} {m : MethodId} {args : Array Value} {below : List Frame} {meth : Method} {c : Code} {D : va_G} {tc : Nat → ClassId} {b0 : Nat} {G : Lay} {Qx : Int32 → Mem → Prop} {l0 : Nat} {l1 : Nat} (C : Cx p s m args meth c cX0_readNames RX0 4 D tc b0) (hr : meth.sig.returnType = (some FieldType.boolean)) (n : Nat) : ∀ (l2 : Int32) (l3 : Int32) (σ : Mem) (H : Heap) (locs : List Loc) (ls : Array Slot), va_S (AA b0) s.heap H locs → Wd G D tc b0 σ H → hL b0 ls 4 [some (.inr (.inr l0)), some (.inr (.inr l1)), some (.inl l2), some (.inl l3)] → Lp (X_X0_readNames_20_s G Qx l0 l1) n (l2, l3, σ) → W p l e rm_X0_readNames s m args below meth c H locs 0 0 (MQ below (va_Qi Qx (fun u t => Pw G D tc b0 u t) (AA b0)) args s 0 0 (AA b0)) (F0 m 20 ls []) := by
  have hx := C.1
  have hb := C.2.1
  induction n with
  | zero => intro l2 l3 σ H locs ls hS hW hl h; exact False.elim h
  | succ n hK20 =>
    intro l2 l3 σ H locs ls hS hW hl h
    replace h : X_X0_readNames_20_s G Qx l0 l1 (Lp (X_X0_readNames_20_s G Qx l0 l1) n) (l2, l3, σ) := h
    unfold X_X0_readNames_20_s at h
    refine x_iload_n C hl dX0_readNames_20 rfl ?_
    refine x_aload_n C hl dX0_readNames_21 rfl ?_
    have t1 := h.1
    replace h := h.2
    refine x_get C hW (t := 0) (k := 1) t1 kl_0 (by decide) fl_X0_15 (v := rv b0 (mR σ l0 1)) rfl dX0_readNames_22 ?_
    have t2 := h.1
    replace h := h.2
    refine x_get C hW (t := 6) (k := 5) t2 kl_6 (by decide) fl_X0_204 (v := rv b0 (mR σ (mR σ l0 1) 5)) rfl dX0_readNames_25 ?_
    have t3 := h.1
    replace h := h.2
    refine x_alen C hW (t := 102) (t0 := 3) t3 (by decide) rfl dX0_readNames_28 ?_
    refine lv_icmp_ge hx hb dX0_readNames_29 (tgt := 178) rfl (fun hc => ?_) (fun hc => ?_)
    · replace h := h.1 hc
      exact t_X0_readNames_178 C hr hS hW (hl.keep [true, false, false, false] rfl) h
    · replace h := h.2 hc
      refine x_iload_n C hl dX0_readNames_32 rfl ?_
      refine lv_if_eq hx hb dX0_readNames_33 (tgt := 178) rfl (fun hc => ?_) (fun hc => ?_)
      · replace h := h.1 hc
        exact t_X0_readNames_178 C hr hS hW (hl.keep [true, false, false, false] rfl) h
      · replace h := h.2 hc
        refine x_aload_n C hl dX0_readNames_36 rfl ?_
        refine x_get C hW (t := 0) (k := 0) t1 kl_0 (by decide) fl_X0_9 (v := rv b0 (mR σ l0 0)) rfl dX0_readNames_37 ?_
        have t4 := h.1
        replace h := h.2
        refine y_i (x_run (As := []) C hW hS (T_X8_isName l (mR σ l0 0) σ _ h) t4 kl_8 (CW.of yv_X8_isName ml_X0_52) ⟨rfl, rfl, ⟨by decide, by decide⟩, by decide, by decide⟩ rfl hl.1 rfl (by decide) dX0_readNames_40) hS (fun w6 s5 H locs h hW hS => ?_)
        refine lv_if_ne hx hb dX0_readNames_43 (tgt := 54) rfl (fun hc => ?_) (fun hc => ?_)
        · replace h := h.2 hc
          refine x_aload_n C hl dX0_readNames_54 rfl ?_
          refine x_get C hW (t := 0) (k := 1) t1 kl_0 (by decide) fl_X0_15 (v := rv b0 (mR s5 l0 1)) rfl dX0_readNames_55 ?_
          refine x_aload_n C hl dX0_readNames_58 rfl ?_
          refine x_aload_n C hl dX0_readNames_59 rfl ?_
          refine x_get C hW (t := 0) (k := 0) t1 kl_0 (by decide) fl_X0_9 (v := rv b0 (mR s5 l0 0)) rfl dX0_readNames_60 ?_
          have t7 := h.1
          replace h := h.2
          refine y_l (x_run (As := []) C hW hS (T_X8_word l (mR s5 l0 0) s5 _ h) t7 kl_8 (CW.of yv_X8_word ml_X0_58) ⟨rfl, rfl, ⟨by decide, by decide⟩, by decide, by decide⟩ rfl hl.1 rfl (by simp [rv_cat, cat_i, cat_l]) dX0_readNames_63) hS (fun w9 s8 H locs h hW hS => ?_)
          have t10 := h.1
          replace h := h.2
          refine y_i (x_run (As := [rv b0 l1, .long w9]) C hW hS (T_X6_nameNumber l (mR s5 l0 1) l1 w9 s8 _ h) t10 kl_6 (CW.of yv_X6_nameNumber ml_X0_208) ⟨rfl, rfl, ⟨by decide, by decide⟩, by decide, by decide⟩ rfl hl.1 rfl (by decide) dX0_readNames_66) hS (fun w12 s11 H locs h hW hS => ?_)
          refine lv_iconst (v := (-1 : Int32)) hx hb dX0_readNames_69 (by decide) ?_
          refine lv_icmp_eq hx hb dX0_readNames_70 (tgt := 82) rfl (fun hc => ?_) (fun hc => ?_)
          · replace h := h.1 hc
            refine x_aload_n C hl dX0_readNames_82 rfl ?_
            refine x_get C hW (t := 0) (k := 1) t1 kl_0 (by decide) fl_X0_15 (v := rv b0 (mR s11 l0 1)) rfl dX0_readNames_83 ?_
            have t13 := h.1
            replace h := h.2
            refine x_get C hW (t := 6) (k := 4) t13 kl_6 (by decide) fl_X0_198 (v := .int (mI s11 (mR s11 l0 1) 4)) rfl dX0_readNames_86 ?_
            refine x_aload_n C hl dX0_readNames_89 rfl ?_
            refine x_get C hW (t := 0) (k := 1) t1 kl_0 (by decide) fl_X0_15 (v := rv b0 (mR s11 l0 1)) rfl dX0_readNames_90 ?_
            refine x_get C hW (t := 6) (k := 5) t13 kl_6 (by decide) fl_X0_204 (v := rv b0 (mR s11 (mR s11 l0 1) 5)) rfl dX0_readNames_93 ?_
            have t14 := h.1
            replace h := h.2
            refine x_alen C hW (t := 102) (t0 := 3) t14 (by decide) rfl dX0_readNames_96 ?_
            refine lv_icmp_lt hx hb dX0_readNames_97 (tgt := 109) rfl (fun hc => ?_) (fun hc => ?_)
            · replace h := h.1 hc
              refine x_aload_n C hl dX0_readNames_109 rfl ?_
              refine x_get C hW (t := 0) (k := 1) t1 kl_0 (by decide) fl_X0_15 (v := rv b0 (mR s11 l0 1)) rfl dX0_readNames_110 ?_
              refine x_get C hW (t := 6) (k := 5) t13 kl_6 (by decide) fl_X0_204 (v := rv b0 (mR s11 (mR s11 l0 1) 5)) rfl dX0_readNames_113 ?_
              refine x_aload_n C hl dX0_readNames_116 rfl ?_
              refine x_get C hW (t := 0) (k := 1) t1 kl_0 (by decide) fl_X0_15 (v := rv b0 (mR s11 l0 1)) rfl dX0_readNames_117 ?_
              refine x_get C hW (t := 6) (k := 4) t13 kl_6 (by decide) fl_X0_198 (v := .int (mI s11 (mR s11 l0 1) 4)) rfl dX0_readNames_120 ?_
              refine x_aload_n C hl dX0_readNames_123 rfl ?_
              refine x_get C hW (t := 0) (k := 0) t1 kl_0 (by decide) fl_X0_9 (v := rv b0 (mR s11 l0 0)) rfl dX0_readNames_124 ?_
              have t15 := h.1
              replace h := h.2
              refine y_l (x_run (As := []) C hW hS (T_X8_word l (mR s11 l0 0) s11 _ h) t15 kl_8 (CW.of yv_X8_word ml_X0_58) ⟨rfl, rfl, ⟨by decide, by decide⟩, by decide, by decide⟩ rfl hl.1 rfl (by simp [rv_cat, cat_i, cat_l]) dX0_readNames_127) hS (fun w17 s16 H locs h hW hS => ?_)
              have v18 := h.1
              replace h := h.2
              refine x_last C hW hS t14 v18 dX0_readNames_130 (fun H locs hW hS => ?_)
              obtain ⟨s19, e_s19⟩ : ∃ z : Mem, z = (sJ s16 (mR s11 (mR s11 l0 1) 5) (mI s11 (mR s11 l0 1) 4).toNatClampNeg w17) := ⟨_, rfl⟩
              replace h := h s19 e_s19
              replace hW : Wd G D tc b0 s19 H := by rw [e_s19]; exact hW
              refine x_aload_n C hl dX0_readNames_131 rfl ?_
              refine x_get C hW (t := 0) (k := 1) t1 kl_0 (by decide) fl_X0_15 (v := rv b0 (mR s19 l0 1)) rfl dX0_readNames_132 ?_
              refine lv_dup hx hb dX0_readNames_135 (rv_cat _ _) ?_
              have t20 := h.1
              replace h := h.2
              refine x_get C hW (t := 6) (k := 4) t20 kl_6 (by decide) fl_X0_198 (v := .int (mI s19 (mR s19 l0 1) 4)) rfl dX0_readNames_136 ?_
              refine lv_iconst (v := (1 : Int32)) hx hb dX0_readNames_139 (by decide) ?_
              refine lv_iadd hx hb dX0_readNames_140 ?_
              refine x_putI C hW hS (t := 6) (k := 4) t20 kl_6 (by decide) fl_X0_198 rfl rfl rfl rfl dX0_readNames_141 (fun H locs hW hS => ?_)
              obtain ⟨s21, e_s21⟩ : ∃ z : Mem, z = (sI s19 (mR s19 l0 1) 4 ((mI s19 (mR s19 l0 1) 4) + (1 : Int32))) := ⟨_, rfl⟩
              replace h := h s21 e_s21
              replace hW : Wd G D tc b0 s21 H := by rw [e_s21]; exact hW
              refine x_aload_n C hl dX0_readNames_144 rfl ?_
              refine lv_dup hx hb dX0_readNames_145 (rv_cat _ _) ?_
              have t22 := h.1
              replace h := h.2
              refine x_get C hW (t := 2) (k := 5) t22 kl_2 (by decide) fl_X0_212 (v := .int (mI s21 l1 5)) rfl dX0_readNames_146 ?_
              refine lv_iconst (v := (1 : Int32)) hx hb dX0_readNames_149 (by decide) ?_
              refine lv_iadd hx hb dX0_readNames_150 ?_
              refine x_putI C hW hS (t := 2) (k := 5) t22 kl_2 (by decide) fl_X0_212 rfl rfl rfl rfl dX0_readNames_151 (fun H locs hW hS => ?_)
              obtain ⟨s23, e_s23⟩ : ∃ z : Mem, z = (sI s21 l1 5 ((mI s21 l1 5) + (1 : Int32))) := ⟨_, rfl⟩
              replace h := h s23 e_s23
              replace hW : Wd G D tc b0 s23 H := by rw [e_s23]; exact hW
              refine x_aload_n C hl dX0_readNames_154 rfl ?_
              refine x_get C hW (t := 0) (k := 0) t1 kl_0 (by decide) fl_X0_9 (v := rv b0 (mR s23 l0 0)) rfl dX0_readNames_155 ?_
              have t24 := h.1
              replace h := h.2
              refine y_v (x_run (As := []) C hW hS (T_X8_pass l (mR s23 l0 0) s23 _ h) t24 kl_8 (CW.of yv_X8_pass ml_X0_74) ⟨rfl, rfl, ⟨by decide, by decide⟩, by decide, by decide⟩ rfl hl.1 rfl (by decide) dX0_readNames_158) hS (fun s25 H locs h hW hS => ?_)
              refine x_aload_n C hl dX0_readNames_161 rfl ?_
              refine x_get C hW (t := 0) (k := 0) t1 kl_0 (by decide) fl_X0_9 (v := rv b0 (mR s25 l0 0)) rfl dX0_readNames_162 ?_
              refine lv_ldc2 (own := RX0) (v := (44 : Int64)) hx hb C.2.2.2.1 (C.2.2.2.2.1 _ (gc4 106 rfl rfl)) dX0_readNames_165 ?_
              have t26 := h.1
              replace h := h.2
              refine y_i (x_run (As := [.long (44 : Int64)]) C hW hS (T_X8_takes l (mR s25 l0 0) (44 : Int64) s25 _ h) t26 kl_8 (CW.of yv_X8_takes ml_X0_84) ⟨rfl, rfl, ⟨by decide, by decide⟩, by decide, by decide⟩ rfl hl.1 rfl (by decide) dX0_readNames_168) hS (fun w28 s27 H locs h hW hS => ?_)
              refine x_istore_n C hl dX0_readNames_171 (by decide) rfl (fun ls hl => ?_)
              refine x_iinc C hl dX0_readNames_172 rfl (v := (1 : Int32)) (by decide) (by decide) rfl (fun ls hl => ?_)
              refine lv_goto hx hb dX0_readNames_175 (tgt := 20) rfl ?_
              exact hK20 _ _ _ _ _ _ hS hW (hl.keep [true, true, true, true] rfl) h
            · replace h := h.2 hc
              refine x_aload_n C hl dX0_readNames_100 rfl ?_
              refine x_get C hW (t := 0) (k := 0) t1 kl_0 (by decide) fl_X0_9 (v := rv b0 (mR s11 l0 0)) rfl dX0_readNames_101 ?_
              refine lv_iconst (v := (4 : Int32)) hx hb dX0_readNames_104 (by decide) ?_
              have t29 := h.1
              replace h := h.2
              refine y_i (x_run (As := [.int (4 : Int32)]) C hW hS (T_X8_refuse l (mR s11 l0 0) (4 : Int32) s11 _ h) t29 kl_8 (CW.of yv_X8_refuse ml_X0_66) ⟨rfl, rfl, ⟨by decide, by decide⟩, by decide, by decide⟩ rfl hl.1 rfl (by decide) dX0_readNames_105) hS (fun w31 s30 H locs h hW hS => ?_)
              exact r_z C hr hW hS h.1 h.2 dX0_readNames_108
          · replace h := h.2 hc
            refine x_aload_n C hl dX0_readNames_73 rfl ?_
            refine x_get C hW (t := 0) (k := 0) t1 kl_0 (by decide) fl_X0_9 (v := rv b0 (mR s11 l0 0)) rfl dX0_readNames_74 ?_
            refine lv_iconst (v := (3 : Int32)) hx hb dX0_readNames_77 (by decide) ?_
            have t32 := h.1
            replace h := h.2
            refine y_i (x_run (As := [.int (3 : Int32)]) C hW hS (T_X8_refuse l (mR s11 l0 0) (3 : Int32) s11 _ h) t32 kl_8 (CW.of yv_X8_refuse ml_X0_66) ⟨rfl, rfl, ⟨by decide, by decide⟩, by decide, by decide⟩ rfl hl.1 rfl (by decide) dX0_readNames_78) hS (fun w34 s33 H locs h hW hS => ?_)
            exact r_z C hr hW hS h.1 h.2 dX0_readNames_81
        · replace h := h.1 hc
          refine x_aload_n C hl dX0_readNames_46 rfl ?_
          refine x_get C hW (t := 0) (k := 0) t1 kl_0 (by decide) fl_X0_9 (v := rv b0 (mR s5 l0 0)) rfl dX0_readNames_47 ?_
          have t35 := h.1
          replace h := h.2
          refine y_i (x_run (As := []) C hW hS (T_X8_misplaced l (mR s5 l0 0) s5 _ h) t35 kl_8 (CW.of yv_X8_misplaced ml_X0_55) ⟨rfl, rfl, ⟨by decide, by decide⟩, by decide, by decide⟩ rfl hl.1 rfl (by decide) dX0_readNames_50) hS (fun w37 s36 H locs h hW hS => ?_)
          exact r_z C hr hW hS h.1 h.2 dX0_readNames_53
set_option maxRecDepth 20000 in
set_option maxHeartbeats 4000000 in
theorem t_X0_readNames_20 {p : Program} {l : Launch} {e : Env} {s : State} {m : MethodId} {args : Array Value} {below : List Frame} {meth : Method} {c : Code} {H : Heap} {locs : List Loc} {D : va_G} {tc : Nat → ClassId} {b0 : Nat} {ls : Array Slot} {G : Lay} {Qx : Int32 → Mem → Prop} {l0 : Nat} {l1 : Nat} {l2 : Int32} {l3 : Int32}  {σ : Mem} (C : Cx p s m args meth c cX0_readNames RX0 4 D tc b0) (hr : meth.sig.returnType = (some FieldType.boolean)) (hS : va_S (AA b0) s.heap H locs) (hW : Wd G D tc b0 σ H) (hl : hL b0 ls 4 [some (.inr (.inr l0)), some (.inr (.inr l1)), some (.inl l2), some (.inl l3)]) (h : X_X0_readNames_20 G Qx l0 l1 l2 l3 σ) : W p l e rm_X0_readNames s m args below meth c H locs 0 0 (MQ below (va_Qi Qx (fun u t => Pw G D tc b0 u t) (AA b0)) args s 0 0 (AA b0)) (F0 m 20 ls []) := by
  obtain ⟨n, h⟩ := h
  exact t_X0_readNames_20_n C hr n l2 l3 σ H locs ls hS hW hl h
set_option maxRecDepth 20000 in
set_option maxHeartbeats 4000000 in
theorem t_X0_readNames_0 {p : Program} {l : Launch} {e : Env} {s : State} {m : MethodId} {args : Array Value} {below : List Frame} {meth : Method} {c : Code} {H : Heap} {locs : List Loc} {D : va_G} {tc : Nat → ClassId} {b0 : Nat} {ls : Array Slot} {G : Lay} {Qx : Int32 → Mem → Prop} {l0 : Nat} {l1 : Nat}  {σ : Mem} (C : Cx p s m args meth c cX0_readNames RX0 4 D tc b0) (hr : meth.sig.returnType = (some FieldType.boolean)) (hS : va_S (AA b0) s.heap H locs) (hW : Wd G D tc b0 σ H) (hl : hL b0 ls 4 [some (.inr (.inr l0)), some (.inr (.inr l1)), none, none]) (h : X_X0_readNames_0 G Qx l0 l1  σ) : W p l e rm_X0_readNames s m args below meth c H locs 0 0 (MQ below (va_Qi Qx (fun u t => Pw G D tc b0 u t) (AA b0)) args s 0 0 (AA b0)) (F0 m 0 ls []) := by
  have hx := C.1
  have hb := C.2.1
  unfold X_X0_readNames_0 at h
  refine x_aload_n C hl dX0_readNames_0 rfl ?_
  refine lv_iconst (v := (3 : Int32)) hx hb dX0_readNames_1 (by decide) ?_
  have t1 := h.1
  replace h := h.2
  refine x_putI C hW hS (t := 2) (k := 2) t1 kl_2 (by decide) fl_X0_132 rfl rfl rfl rfl dX0_readNames_2 (fun H locs hW hS => ?_)
  obtain ⟨s2, e_s2⟩ : ∃ z : Mem, z = (sI σ l1 2 (3 : Int32)) := ⟨_, rfl⟩
  replace h := h s2 e_s2
  replace hW : Wd G D tc b0 s2 H := by rw [e_s2]; exact hW
  refine x_aload_n C hl dX0_readNames_5 rfl ?_
  refine x_aload_n C hl dX0_readNames_6 rfl ?_
  have t3 := h.1
  replace h := h.2
  refine x_get C hW (t := 0) (k := 1) t3 kl_0 (by decide) fl_X0_15 (v := rv b0 (mR s2 l0 1)) rfl dX0_readNames_7 ?_
  have t4 := h.1
  replace h := h.2
  refine x_get C hW (t := 6) (k := 4) t4 kl_6 (by decide) fl_X0_198 (v := .int (mI s2 (mR s2 l0 1) 4)) rfl dX0_readNames_10 ?_
  refine x_putI C hW hS (t := 2) (k := 4) t1 kl_2 (by decide) fl_X0_201 rfl rfl rfl rfl dX0_readNames_13 (fun H locs hW hS => ?_)
  obtain ⟨s5, e_s5⟩ : ∃ z : Mem, z = (sI s2 l1 4 (mI s2 (mR s2 l0 1) 4)) := ⟨_, rfl⟩
  replace h := h s5 e_s5
  replace hW : Wd G D tc b0 s5 H := by rw [e_s5]; exact hW
  refine lv_iconst (v := (1 : Int32)) hx hb dX0_readNames_16 (by decide) ?_
  refine x_istore_n C hl dX0_readNames_17 (by decide) rfl (fun ls hl => ?_)
  refine lv_iconst (v := (0 : Int32)) hx hb dX0_readNames_18 (by decide) ?_
  refine x_istore_n C hl dX0_readNames_19 (by decide) rfl (fun ls hl => ?_)
  exact t_X0_readNames_20 C hr hS hW (hl.keep [true, true, true, true] rfl) h
theorem T_X0_readNames (l : Launch) {G : Lay} {D : va_G} {tc : Nat → ClassId} {b0 : Nat} (l0 : Nat) (l1 : Nat) (σ : Mem) (Qx : Int32 → Mem → Prop) (h : X_X0_readNames G Qx l0 l1 σ) : MI l yX0_readNames cX0_readNames 4 ((some FieldType.boolean)) rm_X0_readNames G D tc b0 [rv b0 l0, rv b0 l1] σ Qx :=
  x_entry (y := yX0_readNames) [.inr (.inr l0), .inr (.inr l1)] 2 (by decide) (Nat.le_of_ble_eq_true rfl) (fun p e s m args below meth c ls C hr hW hl => t_X0_readNames_0 C hr va_S.rf hW (hl.keep [true, true, false, false] rfl) h)
/-! X0_readSort -/
set_option maxRecDepth 20000 in
set_option maxHeartbeats 4000000 in
theorem t_X0_readSort_122 {p : Program} {l : Launch} {e : Env} {s : State} {m : MethodId} {args : Array Value} {below : List Frame} {meth : Method} {c : Code} {H : Heap} {locs : List Loc} {D : va_G} {tc : Nat → ClassId} {b0 : Nat} {ls : Array Slot} {G : Lay} {Qx : Int32 → Mem → Prop}   {σ : Mem} (C : Cx p s m args meth c cX0_readSort RX0 2 D tc b0) (hr : meth.sig.returnType = (some FieldType.boolean)) (hS : va_S (AA b0) s.heap H locs) (hW : Wd G D tc b0 σ H) (hl : hL b0 ls 2 [none, none]) (h : X_X0_readSort_122 G Qx   σ) : W p l e rm_X0_readSort s m args below meth c H locs 0 0 (MQ below (va_Qi Qx (fun u t => Pw G D tc b0 u t) (AA b0)) args s 0 0 (AA b0)) (F0 m 122 ls []) := by
  have hx := C.1
  have hb := C.2.1
  unfold X_X0_readSort_122 at h
  refine lv_iconst (v := (0 : Int32)) hx hb dX0_readSort_122 (by decide) ?_
  exact r_z C hr hW hS h.1 h.2 dX0_readSort_123
set_option maxRecDepth 20000 in
set_option maxHeartbeats 4000000 in
theorem t_X0_readSort_124 {p : Program} {l : Launch} {e : Env} {s : State} {m : MethodId} {args : Array Value} {below : List Frame} {meth : Method} {c : Code} {H : Heap} {locs : List Loc} {D : va_G} {tc : Nat → ClassId} {b0 : Nat} {ls : Array Slot} {G : Lay} {Qx : Int32 → Mem → Prop} {l0 : Nat} {l1 : Nat}  {σ : Mem} (C : Cx p s m args meth c cX0_readSort RX0 2 D tc b0) (hr : meth.sig.returnType = (some FieldType.boolean)) (hS : va_S (AA b0) s.heap H locs) (hW : Wd G D tc b0 σ H) (hl : hL b0 ls 2 [some (.inr (.inr l0)), some (.inr (.inr l1))]) (h : X_X0_readSort_124 G Qx l0 l1  σ) : W p l e rm_X0_readSort s m args below meth c H locs 0 0 (MQ below (va_Qi Qx (fun u t => Pw G D tc b0 u t) (AA b0)) args s 0 0 (AA b0)) (F0 m 124 ls []) := by
  have hx := C.1
  have hb := C.2.1
  unfold X_X0_readSort_124 at h
  refine x_aload_n C hl dX0_readSort_124 rfl ?_
  refine x_aload_n C hl dX0_readSort_125 rfl ?_
  refine lv_ldc2 (own := RX0) (v := (129117075895653 : Int64)) hx hb C.2.2.2.1 (C.2.2.2.2.1 _ (gc4 108 rfl rfl)) dX0_readSort_126 ?_
  refine lv_iconst (v := (1 : Int32)) hx hb dX0_readSort_129 (by decide) ?_
  have t1 := h.1
  replace h := h.2
  refine y_v (x_run (As := [rv b0 l1, .long (129117075895653 : Int64), .int (1 : Int32)]) C hW hS (T_X0_takeFlag l l0 l1 (129117075895653 : Int64) (1 : Int32) σ _ h) t1 kl_0 (CW.of yv_X0_takeFlag ml_X0_194) ⟨rfl, rfl, ⟨by decide, by decide⟩, by decide, by decide⟩ rfl hl.1 rfl (by decide) dX0_readSort_130) hS (fun s2 H locs h hW hS => ?_)
  refine lv_iconst (v := (1 : Int32)) hx hb dX0_readSort_133 (by decide) ?_
  exact r_z C hr hW hS h.1 h.2 dX0_readSort_134
set_option maxRecDepth 20000 in
set_option maxHeartbeats 4000000 in
theorem t_X0_readSort_0 {p : Program} {l : Launch} {e : Env} {s : State} {m : MethodId} {args : Array Value} {below : List Frame} {meth : Method} {c : Code} {H : Heap} {locs : List Loc} {D : va_G} {tc : Nat → ClassId} {b0 : Nat} {ls : Array Slot} {G : Lay} {Qx : Int32 → Mem → Prop} {l0 : Nat} {l1 : Nat}  {σ : Mem} (C : Cx p s m args meth c cX0_readSort RX0 2 D tc b0) (hr : meth.sig.returnType = (some FieldType.boolean)) (hS : va_S (AA b0) s.heap H locs) (hW : Wd G D tc b0 σ H) (hl : hL b0 ls 2 [some (.inr (.inr l0)), some (.inr (.inr l1))]) (h : X_X0_readSort_0 G Qx l0 l1  σ) : W p l e rm_X0_readSort s m args below meth c H locs 0 0 (MQ below (va_Qi Qx (fun u t => Pw G D tc b0 u t) (AA b0)) args s 0 0 (AA b0)) (F0 m 0 ls []) := by
  have hx := C.1
  have hb := C.2.1
  unfold X_X0_readSort_0 at h
  refine x_aload_n C hl dX0_readSort_0 rfl ?_
  have t1 := h.1
  replace h := h.2
  refine x_get C hW (t := 0) (k := 0) t1 kl_0 (by decide) fl_X0_9 (v := rv b0 (mR σ l0 0)) rfl dX0_readSort_1 ?_
  refine lv_ldc2 (own := RX0) (v := (29807 : Int64)) hx hb C.2.2.2.1 (C.2.2.2.2.1 _ (gc4 69 rfl rfl)) dX0_readSort_4 ?_
  have t2 := h.1
  replace h := h.2
  refine y_i (x_run (As := [.long (29807 : Int64)]) C hW hS (T_X8_takes l (mR σ l0 0) (29807 : Int64) σ _ h) t2 kl_8 (CW.of yv_X8_takes ml_X0_84) ⟨rfl, rfl, ⟨by decide, by decide⟩, by decide, by decide⟩ rfl hl.1 rfl (by decide) dX0_readSort_7) hS (fun w4 s3 H locs h hW hS => ?_)
  refine lv_if_eq hx hb dX0_readSort_10 (tgt := 19) rfl (fun hc => ?_) (fun hc => ?_)
  · replace h := h.1 hc
    refine x_aload_n C hl dX0_readSort_19 rfl ?_
    refine x_get C hW (t := 0) (k := 0) t1 kl_0 (by decide) fl_X0_9 (v := rv b0 (mR s3 l0 0)) rfl dX0_readSort_20 ?_
    refine lv_ldc2 (own := RX0) (v := (1818850164 : Int64)) hx hb C.2.2.2.1 (C.2.2.2.2.1 _ (gc4 88 rfl rfl)) dX0_readSort_23 ?_
    have t5 := h.1
    replace h := h.2
    refine y_i (x_run (As := [.long (1818850164 : Int64)]) C hW hS (T_X8_takes l (mR s3 l0 0) (1818850164 : Int64) s3 _ h) t5 kl_8 (CW.of yv_X8_takes ml_X0_84) ⟨rfl, rfl, ⟨by decide, by decide⟩, by decide, by decide⟩ rfl hl.1 rfl (by decide) dX0_readSort_26) hS (fun w7 s6 H locs h hW hS => ?_)
    refine lv_if_eq hx hb dX0_readSort_29 (tgt := 38) rfl (fun hc => ?_) (fun hc => ?_)
    · replace h := h.1 hc
      refine x_aload_n C hl dX0_readSort_38 rfl ?_
      refine x_get C hW (t := 0) (k := 0) t1 kl_0 (by decide) fl_X0_9 (v := rv b0 (mR s6 l0 0)) rfl dX0_readSort_39 ?_
      refine lv_ldc2 (own := RX0) (v := (512853240933 : Int64)) hx hb C.2.2.2.1 (C.2.2.2.2.1 _ (gc4 94 rfl rfl)) dX0_readSort_42 ?_
      have t8 := h.1
      replace h := h.2
      refine y_i (x_run (As := [.long (512853240933 : Int64)]) C hW hS (T_X8_takes l (mR s6 l0 0) (512853240933 : Int64) s6 _ h) t8 kl_8 (CW.of yv_X8_takes ml_X0_84) ⟨rfl, rfl, ⟨by decide, by decide⟩, by decide, by decide⟩ rfl hl.1 rfl (by decide) dX0_readSort_45) hS (fun w10 s9 H locs h hW hS => ?_)
      refine lv_if_eq hx hb dX0_readSort_48 (tgt := 59) rfl (fun hc => ?_) (fun hc => ?_)
      · replace h := h.1 hc
        refine x_aload_n C hl dX0_readSort_59 rfl ?_
        refine x_get C hW (t := 0) (k := 0) t1 kl_0 (by decide) fl_X0_9 (v := rv b0 (mR s9 l0 0)) rfl dX0_readSort_60 ?_
        refine lv_ldc2 (own := RX0) (v := (495756340332 : Int64)) hx hb C.2.2.2.1 (C.2.2.2.2.1 _ (gc4 95 rfl rfl)) dX0_readSort_63 ?_
        have t11 := h.1
        replace h := h.2
        refine y_i (x_run (As := [.long (495756340332 : Int64)]) C hW hS (T_X8_takes l (mR s9 l0 0) (495756340332 : Int64) s9 _ h) t11 kl_8 (CW.of yv_X8_takes ml_X0_84) ⟨rfl, rfl, ⟨by decide, by decide⟩, by decide, by decide⟩ rfl hl.1 rfl (by decide) dX0_readSort_66) hS (fun w13 s12 H locs h hW hS => ?_)
        refine lv_if_eq hx hb dX0_readSort_69 (tgt := 80) rfl (fun hc => ?_) (fun hc => ?_)
        · replace h := h.1 hc
          refine x_aload_n C hl dX0_readSort_80 rfl ?_
          refine x_get C hW (t := 0) (k := 0) t1 kl_0 (by decide) fl_X0_9 (v := rv b0 (mR s12 l0 0)) rfl dX0_readSort_81 ?_
          refine lv_ldc2 (own := RX0) (v := (1718378855 : Int64)) hx hb C.2.2.2.1 (C.2.2.2.2.1 _ (gc4 96 rfl rfl)) dX0_readSort_84 ?_
          have t14 := h.1
          replace h := h.2
          refine y_i (x_run (As := [.long (1718378855 : Int64)]) C hW hS (T_X8_takes l (mR s12 l0 0) (1718378855 : Int64) s12 _ h) t14 kl_8 (CW.of yv_X8_takes ml_X0_84) ⟨rfl, rfl, ⟨by decide, by decide⟩, by decide, by decide⟩ rfl hl.1 rfl (by decide) dX0_readSort_87) hS (fun w16 s15 H locs h hW hS => ?_)
          refine lv_if_eq hx hb dX0_readSort_90 (tgt := 101) rfl (fun hc => ?_) (fun hc => ?_)
          · replace h := h.1 hc
            refine x_aload_n C hl dX0_readSort_101 rfl ?_
            refine x_get C hW (t := 0) (k := 0) t1 kl_0 (by decide) fl_X0_9 (v := rv b0 (mR s15 l0 0)) rfl dX0_readSort_102 ?_
            refine lv_ldc2 (own := RX0) (v := (40 : Int64)) hx hb C.2.2.2.1 (C.2.2.2.2.1 _ (gc4 97 rfl rfl)) dX0_readSort_105 ?_
            have t17 := h.1
            replace h := h.2
            refine y_i (x_run (As := [.long (40 : Int64)]) C hW hS (T_X8_expects l (mR s15 l0 0) (40 : Int64) s15 _ h) t17 kl_8 (CW.of yv_X8_expects ml_X0_48) ⟨rfl, rfl, ⟨by decide, by decide⟩, by decide, by decide⟩ rfl hl.1 rfl (by decide) dX0_readSort_108) hS (fun w19 s18 H locs h hW hS => ?_)
            refine lv_if_eq hx hb dX0_readSort_111 (tgt := 122) rfl (fun hc => ?_) (fun hc => ?_)
            · replace h := h.1 hc
              exact t_X0_readSort_122 C hr hS hW (hl.keep [false, false] rfl) h
            · replace h := h.2 hc
              refine x_aload_n C hl dX0_readSort_114 rfl ?_
              refine x_aload_n C hl dX0_readSort_115 rfl ?_
              refine y_i (x_run (As := [rv b0 l1]) C hW hS (T_X0_readNames l l0 l1 s18 _ h) t1 kl_0 (CW.of yv_X0_readNames ml_X0_189) ⟨rfl, rfl, ⟨by decide, by decide⟩, by decide, by decide⟩ rfl hl.1 rfl (by decide) dX0_readSort_116) hS (fun w21 s20 H locs h hW hS => ?_)
              refine lv_if_ne hx hb dX0_readSort_119 (tgt := 124) rfl (fun hc => ?_) (fun hc => ?_)
              · replace h := h.2 hc
                exact t_X0_readSort_124 C hr hS hW (hl.keep [true, true] rfl) h
              · replace h := h.1 hc
                exact t_X0_readSort_122 C hr hS hW (hl.keep [false, false] rfl) h
          · replace h := h.2 hc
            refine x_aload_n C hl dX0_readSort_93 rfl ?_
            refine lv_iconst (v := (2 : Int32)) hx hb dX0_readSort_94 (by decide) ?_
            have t22 := h.1
            replace h := h.2
            refine x_putI C hW hS (t := 2) (k := 2) t22 kl_2 (by decide) fl_X0_132 rfl rfl rfl rfl dX0_readSort_95 (fun H locs hW hS => ?_)
            obtain ⟨s23, e_s23⟩ : ∃ z : Mem, z = (sI s15 l1 2 (2 : Int32)) := ⟨_, rfl⟩
            replace h := h s23 e_s23
            replace hW : Wd G D tc b0 s23 H := by rw [e_s23]; exact hW
            refine lv_goto hx hb dX0_readSort_98 (tgt := 124) rfl ?_
            exact t_X0_readSort_124 C hr hS hW (hl.keep [true, true] rfl) h
        · replace h := h.2 hc
          refine x_aload_n C hl dX0_readSort_72 rfl ?_
          refine lv_iconst (v := (1 : Int32)) hx hb dX0_readSort_73 (by decide) ?_
          have t24 := h.1
          replace h := h.2
          refine x_putI C hW hS (t := 2) (k := 2) t24 kl_2 (by decide) fl_X0_132 rfl rfl rfl rfl dX0_readSort_74 (fun H locs hW hS => ?_)
          obtain ⟨s25, e_s25⟩ : ∃ z : Mem, z = (sI s12 l1 2 (1 : Int32)) := ⟨_, rfl⟩
          replace h := h s25 e_s25
          replace hW : Wd G D tc b0 s25 H := by rw [e_s25]; exact hW
          refine lv_goto hx hb dX0_readSort_77 (tgt := 124) rfl ?_
          exact t_X0_readSort_124 C hr hS hW (hl.keep [true, true] rfl) h
      · replace h := h.2 hc
        refine x_aload_n C hl dX0_readSort_51 rfl ?_
        refine lv_iconst (v := (0 : Int32)) hx hb dX0_readSort_52 (by decide) ?_
        have t26 := h.1
        replace h := h.2
        refine x_putI C hW hS (t := 2) (k := 2) t26 kl_2 (by decide) fl_X0_132 rfl rfl rfl rfl dX0_readSort_53 (fun H locs hW hS => ?_)
        obtain ⟨s27, e_s27⟩ : ∃ z : Mem, z = (sI s9 l1 2 (0 : Int32)) := ⟨_, rfl⟩
        replace h := h s27 e_s27
        replace hW : Wd G D tc b0 s27 H := by rw [e_s27]; exact hW
        refine lv_goto hx hb dX0_readSort_56 (tgt := 124) rfl ?_
        exact t_X0_readSort_124 C hr hS hW (hl.keep [true, true] rfl) h
    · replace h := h.2 hc
      refine x_aload_n C hl dX0_readSort_32 rfl ?_
      refine x_aload_n C hl dX0_readSort_33 rfl ?_
      refine y_i (x_run (As := [rv b0 l1]) C hW hS (T_X0_readList l l0 l1 s6 _ h) t1 kl_0 (CW.of yv_X0_readList ml_X0_178) ⟨rfl, rfl, ⟨by decide, by decide⟩, by decide, by decide⟩ rfl hl.1 rfl (by decide) dX0_readSort_34) hS (fun w29 s28 H locs h hW hS => ?_)
      exact r_z C hr hW hS h.1 h.2 dX0_readSort_37
  · replace h := h.2 hc
    refine x_aload_n C hl dX0_readSort_13 rfl ?_
    refine x_aload_n C hl dX0_readSort_14 rfl ?_
    refine y_i (x_run (As := [rv b0 l1]) C hW hS (T_X0_readReference l l0 l1 s3 _ h) t1 kl_0 (CW.of yv_X0_readReference ml_X0_173) ⟨rfl, rfl, ⟨by decide, by decide⟩, by decide, by decide⟩ rfl hl.1 rfl (by decide) dX0_readSort_15) hS (fun w31 s30 H locs h hW hS => ?_)
    exact r_z C hr hW hS h.1 h.2 dX0_readSort_18
theorem T_X0_readSort (l : Launch) {G : Lay} {D : va_G} {tc : Nat → ClassId} {b0 : Nat} (l0 : Nat) (l1 : Nat) (σ : Mem) (Qx : Int32 → Mem → Prop) (h : X_X0_readSort G Qx l0 l1 σ) : MI l yX0_readSort cX0_readSort 2 ((some FieldType.boolean)) rm_X0_readSort G D tc b0 [rv b0 l0, rv b0 l1] σ Qx :=
  x_entry (y := yX0_readSort) [.inr (.inr l0), .inr (.inr l1)] 0 (by decide) (Nat.le_of_ble_eq_true rfl) (fun p e s m args below meth c ls C hr hW hl => t_X0_readSort_0 C hr va_S.rf hW (hl.keep [true, true] rfl) h)
/-! X0_readMember -/
set_option maxRecDepth 20000 in
set_option maxHeartbeats 4000000 in
theorem t_X0_readMember_131 {p : Program} {l : Launch} {e : Env} {s : State} {m : MethodId} {args : Array Value} {below : List Frame} {meth : Method} {c : Code} {H : Heap} {locs : List Loc} {D : va_G} {tc : Nat → ClassId} {b0 : Nat} {ls : Array Slot} {G : Lay} {Qx : Int32 → Mem → Prop}  {k0 : Int32} {σ : Mem} (C : Cx p s m args meth c cX0_readMember RX0 2 D tc b0) (hr : meth.sig.returnType = (some FieldType.boolean)) (hS : va_S (AA b0) s.heap H locs) (hW : Wd G D tc b0 σ H) (hl : hL b0 ls 2 [none, none]) (h : X_X0_readMember_131 G Qx  k0 σ) : W p l e rm_X0_readMember s m args below meth c H locs 0 0 (MQ below (va_Qi Qx (fun u t => Pw G D tc b0 u t) (AA b0)) args s 0 0 (AA b0)) (F0 m 131 ls [.int k0]) := by
  have hx := C.1
  have hb := C.2.1
  unfold X_X0_readMember_131 at h
  exact r_z C hr hW hS h.1 h.2 dX0_readMember_131
set_option maxRecDepth 20000 in
set_option maxHeartbeats 4000000 in
theorem t_X0_readMember_130 {p : Program} {l : Launch} {e : Env} {s : State} {m : MethodId} {args : Array Value} {below : List Frame} {meth : Method} {c : Code} {H : Heap} {locs : List Loc} {D : va_G} {tc : Nat → ClassId} {b0 : Nat} {ls : Array Slot} {G : Lay} {Qx : Int32 → Mem → Prop}   {σ : Mem} (C : Cx p s m args meth c cX0_readMember RX0 2 D tc b0) (hr : meth.sig.returnType = (some FieldType.boolean)) (hS : va_S (AA b0) s.heap H locs) (hW : Wd G D tc b0 σ H) (hl : hL b0 ls 2 [none, none]) (h : X_X0_readMember_130 G Qx   σ) : W p l e rm_X0_readMember s m args below meth c H locs 0 0 (MQ below (va_Qi Qx (fun u t => Pw G D tc b0 u t) (AA b0)) args s 0 0 (AA b0)) (F0 m 130 ls []) := by
  have hx := C.1
  have hb := C.2.1
  unfold X_X0_readMember_130 at h
  refine lv_iconst (v := (0 : Int32)) hx hb dX0_readMember_130 (by decide) ?_
  exact t_X0_readMember_131 C hr hS hW (hl.keep [false, false] rfl) h
set_option maxRecDepth 20000 in
set_option maxHeartbeats 4000000 in
theorem t_X0_readMember_0 {p : Program} {l : Launch} {e : Env} {s : State} {m : MethodId} {args : Array Value} {below : List Frame} {meth : Method} {c : Code} {H : Heap} {locs : List Loc} {D : va_G} {tc : Nat → ClassId} {b0 : Nat} {ls : Array Slot} {G : Lay} {Qx : Int32 → Mem → Prop} {l0 : Nat}  {σ : Mem} (C : Cx p s m args meth c cX0_readMember RX0 2 D tc b0) (hr : meth.sig.returnType = (some FieldType.boolean)) (hS : va_S (AA b0) s.heap H locs) (hW : Wd G D tc b0 σ H) (hl : hL b0 ls 2 [some (.inr (.inr l0)), none]) (h : X_X0_readMember_0 G Qx l0  σ) : W p l e rm_X0_readMember s m args below meth c H locs 0 0 (MQ below (va_Qi Qx (fun u t => Pw G D tc b0 u t) (AA b0)) args s 0 0 (AA b0)) (F0 m 0 ls []) := by
  have hx := C.1
  have hb := C.2.1
  unfold X_X0_readMember_0 at h
  refine x_aload_n C hl dX0_readMember_0 rfl ?_
  have t1 := h.1
  replace h := h.2
  refine x_get C hW (t := 0) (k := 0) t1 kl_0 (by decide) fl_X0_9 (v := rv b0 (mR σ l0 0)) rfl dX0_readMember_1 ?_
  have t2 := h.1
  replace h := h.2
  refine y_i (x_run (As := []) C hW hS (T_X8_isName l (mR σ l0 0) σ _ h) t2 kl_8 (CW.of yv_X8_isName ml_X0_52) ⟨rfl, rfl, ⟨by decide, by decide⟩, by decide, by decide⟩ rfl hl.1 rfl (by decide) dX0_readMember_4) hS (fun w4 s3 H locs h hW hS => ?_)
  refine lv_if_ne hx hb dX0_readMember_7 (tgt := 18) rfl (fun hc => ?_) (fun hc => ?_)
  · replace h := h.2 hc
    refine x_aload_n C hl dX0_readMember_18 rfl ?_
    refine x_get C hW (t := 0) (k := 2) t1 kl_0 (by decide) fl_X0_24 (v := rv b0 (mR s3 l0 2)) rfl dX0_readMember_19 ?_
    refine x_aload_n C hl dX0_readMember_22 rfl ?_
    refine x_get C hW (t := 0) (k := 0) t1 kl_0 (by decide) fl_X0_9 (v := rv b0 (mR s3 l0 0)) rfl dX0_readMember_23 ?_
    have t5 := h.1
    replace h := h.2
    refine y_l (x_run (As := []) C hW hS (T_X8_word l (mR s3 l0 0) s3 _ h) t5 kl_8 (CW.of yv_X8_word ml_X0_58) ⟨rfl, rfl, ⟨by decide, by decide⟩, by decide, by decide⟩ rfl hl.1 rfl (by simp [rv_cat, cat_i, cat_l]) dX0_readMember_26) hS (fun w7 s6 H locs h hW hS => ?_)
    have t8 := h.1
    replace h := h.2
    refine y_i (x_run (As := [.long w7]) C hW hS (T_X1_memberNamed l (mR s3 l0 2) w7 s6 _ h) t8 kl_1 (CW.of yv_X1_memberNamed ml_X0_125) ⟨rfl, rfl, ⟨by decide, by decide⟩, by decide, by decide⟩ rfl hl.1 rfl (by decide) dX0_readMember_29) hS (fun w10 s9 H locs h hW hS => ?_)
    refine lv_iconst (v := (-1 : Int32)) hx hb dX0_readMember_32 (by decide) ?_
    refine lv_icmp_eq hx hb dX0_readMember_33 (tgt := 45) rfl (fun hc => ?_) (fun hc => ?_)
    · replace h := h.1 hc
      refine x_aload_n C hl dX0_readMember_45 rfl ?_
      refine x_get C hW (t := 0) (k := 2) t1 kl_0 (by decide) fl_X0_24 (v := rv b0 (mR s9 l0 2)) rfl dX0_readMember_46 ?_
      have t11 := h.1
      replace h := h.2
      refine x_get C hW (t := 1) (k := 4) t11 kl_1 (by decide) fl_X0_158 (v := .int (mI s9 (mR s9 l0 2) 4)) rfl dX0_readMember_49 ?_
      refine lv_bipush (v := (16 : Int32)) hx hb dX0_readMember_52 (by decide) ?_
      refine lv_icmp_lt hx hb dX0_readMember_54 (tgt := 66) rfl (fun hc => ?_) (fun hc => ?_)
      · replace h := h.1 hc
        refine x_aload_n C hl dX0_readMember_66 rfl ?_
        refine x_get C hW (t := 0) (k := 1) t1 kl_0 (by decide) fl_X0_15 (v := rv b0 (mR s9 l0 1)) rfl dX0_readMember_67 ?_
        refine x_aload_n C hl dX0_readMember_70 rfl ?_
        refine x_get C hW (t := 0) (k := 2) t1 kl_0 (by decide) fl_X0_24 (v := rv b0 (mR s9 l0 2)) rfl dX0_readMember_71 ?_
        refine x_aload_n C hl dX0_readMember_74 rfl ?_
        refine x_get C hW (t := 0) (k := 0) t1 kl_0 (by decide) fl_X0_9 (v := rv b0 (mR s9 l0 0)) rfl dX0_readMember_75 ?_
        have t12 := h.1
        replace h := h.2
        refine y_l (x_run (As := []) C hW hS (T_X8_word l (mR s9 l0 0) s9 _ h) t12 kl_8 (CW.of yv_X8_word ml_X0_58) ⟨rfl, rfl, ⟨by decide, by decide⟩, by decide, by decide⟩ rfl hl.1 rfl (by simp [rv_cat, cat_i, cat_l]) dX0_readMember_78) hS (fun w14 s13 H locs h hW hS => ?_)
        have t15 := h.1
        replace h := h.2
        refine y_r (x_run (As := [rv b0 (mR s9 l0 2), .long w14]) C hW hS (T_X6_addMember l (mR s9 l0 1) (mR s9 l0 2) w14 s13 _ h) t15 kl_6 (CW.of yv_X6_addMember ml_X0_161) ⟨rfl, rfl, ⟨by decide, by decide⟩, by decide, by decide⟩ rfl hl.1 rfl (by decide) dX0_readMember_81) hS (fun w17 s16 H locs h hW hS => ?_)
        refine x_astore_n C hl dX0_readMember_84 (by decide) rfl (fun ls hl => ?_)
        refine x_aload_n C hl dX0_readMember_85 rfl ?_
        refine x_get C hW (t := 0) (k := 0) t1 kl_0 (by decide) fl_X0_9 (v := rv b0 (mR s16 l0 0)) rfl dX0_readMember_86 ?_
        have t18 := h.1
        replace h := h.2
        refine y_v (x_run (As := []) C hW hS (T_X8_pass l (mR s16 l0 0) s16 _ h) t18 kl_8 (CW.of yv_X8_pass ml_X0_74) ⟨rfl, rfl, ⟨by decide, by decide⟩, by decide, by decide⟩ rfl hl.1 rfl (by decide) dX0_readMember_89) hS (fun s19 H locs h hW hS => ?_)
        refine x_aload_n C hl dX0_readMember_92 rfl ?_
        refine x_get C hW (t := 0) (k := 0) t1 kl_0 (by decide) fl_X0_9 (v := rv b0 (mR s19 l0 0)) rfl dX0_readMember_93 ?_
        refine lv_ldc2 (own := RX0) (v := (58 : Int64)) hx hb C.2.2.2.1 (C.2.2.2.2.1 _ (gc4 64 rfl rfl)) dX0_readMember_96 ?_
        have t20 := h.1
        replace h := h.2
        refine y_i (x_run (As := [.long (58 : Int64)]) C hW hS (T_X8_expects l (mR s19 l0 0) (58 : Int64) s19 _ h) t20 kl_8 (CW.of yv_X8_expects ml_X0_48) ⟨rfl, rfl, ⟨by decide, by decide⟩, by decide, by decide⟩ rfl hl.1 rfl (by decide) dX0_readMember_99) hS (fun w22 s21 H locs h hW hS => ?_)
        refine lv_if_eq hx hb dX0_readMember_102 (tgt := 130) rfl (fun hc => ?_) (fun hc => ?_)
        · replace h := h.1 hc
          exact t_X0_readMember_130 C hr hS hW (hl.keep [false, false] rfl) h
        · replace h := h.2 hc
          refine x_aload_n C hl dX0_readMember_105 rfl ?_
          refine x_aload_n C hl dX0_readMember_106 rfl ?_
          refine y_i (x_run (As := [rv b0 w17]) C hW hS (T_X0_readSort l l0 w17 s21 _ h) t1 kl_0 (CW.of yv_X0_readSort ml_X0_167) ⟨rfl, rfl, ⟨by decide, by decide⟩, by decide, by decide⟩ rfl hl.1 rfl (by decide) dX0_readMember_107) hS (fun w24 s23 H locs h hW hS => ?_)
          refine lv_if_eq hx hb dX0_readMember_110 (tgt := 130) rfl (fun hc => ?_) (fun hc => ?_)
          · replace h := h.1 hc
            exact t_X0_readMember_130 C hr hS hW (hl.keep [false, false] rfl) h
          · replace h := h.2 hc
            refine x_aload_n C hl dX0_readMember_113 rfl ?_
            refine x_get C hW (t := 0) (k := 0) t1 kl_0 (by decide) fl_X0_9 (v := rv b0 (mR s23 l0 0)) rfl dX0_readMember_114 ?_
            refine lv_ldc2 (own := RX0) (v := (59 : Int64)) hx hb C.2.2.2.1 (C.2.2.2.2.1 _ (gc4 51 rfl rfl)) dX0_readMember_117 ?_
            have t25 := h.1
            replace h := h.2
            refine y_i (x_run (As := [.long (59 : Int64)]) C hW hS (T_X8_expects l (mR s23 l0 0) (59 : Int64) s23 _ h) t25 kl_8 (CW.of yv_X8_expects ml_X0_48) ⟨rfl, rfl, ⟨by decide, by decide⟩, by decide, by decide⟩ rfl hl.1 rfl (by decide) dX0_readMember_120) hS (fun w27 s26 H locs h hW hS => ?_)
            refine lv_if_eq hx hb dX0_readMember_123 (tgt := 130) rfl (fun hc => ?_) (fun hc => ?_)
            · replace h := h.1 hc
              exact t_X0_readMember_130 C hr hS hW (hl.keep [false, false] rfl) h
            · replace h := h.2 hc
              refine lv_iconst (v := (1 : Int32)) hx hb dX0_readMember_126 (by decide) ?_
              refine lv_goto hx hb dX0_readMember_127 (tgt := 131) rfl ?_
              exact t_X0_readMember_131 C hr hS hW (hl.keep [false, false] rfl) h
      · replace h := h.2 hc
        refine x_aload_n C hl dX0_readMember_57 rfl ?_
        refine x_get C hW (t := 0) (k := 0) t1 kl_0 (by decide) fl_X0_9 (v := rv b0 (mR s9 l0 0)) rfl dX0_readMember_58 ?_
        refine lv_iconst (v := (4 : Int32)) hx hb dX0_readMember_61 (by decide) ?_
        have t28 := h.1
        replace h := h.2
        refine y_i (x_run (As := [.int (4 : Int32)]) C hW hS (T_X8_refuse l (mR s9 l0 0) (4 : Int32) s9 _ h) t28 kl_8 (CW.of yv_X8_refuse ml_X0_66) ⟨rfl, rfl, ⟨by decide, by decide⟩, by decide, by decide⟩ rfl hl.1 rfl (by decide) dX0_readMember_62) hS (fun w30 s29 H locs h hW hS => ?_)
        exact r_z C hr hW hS h.1 h.2 dX0_readMember_65
    · replace h := h.2 hc
      refine x_aload_n C hl dX0_readMember_36 rfl ?_
      refine x_get C hW (t := 0) (k := 0) t1 kl_0 (by decide) fl_X0_9 (v := rv b0 (mR s9 l0 0)) rfl dX0_readMember_37 ?_
      refine lv_iconst (v := (3 : Int32)) hx hb dX0_readMember_40 (by decide) ?_
      have t31 := h.1
      replace h := h.2
      refine y_i (x_run (As := [.int (3 : Int32)]) C hW hS (T_X8_refuse l (mR s9 l0 0) (3 : Int32) s9 _ h) t31 kl_8 (CW.of yv_X8_refuse ml_X0_66) ⟨rfl, rfl, ⟨by decide, by decide⟩, by decide, by decide⟩ rfl hl.1 rfl (by decide) dX0_readMember_41) hS (fun w33 s32 H locs h hW hS => ?_)
      exact r_z C hr hW hS h.1 h.2 dX0_readMember_44
  · replace h := h.1 hc
    refine x_aload_n C hl dX0_readMember_10 rfl ?_
    refine x_get C hW (t := 0) (k := 0) t1 kl_0 (by decide) fl_X0_9 (v := rv b0 (mR s3 l0 0)) rfl dX0_readMember_11 ?_
    have t34 := h.1
    replace h := h.2
    refine y_i (x_run (As := []) C hW hS (T_X8_misplaced l (mR s3 l0 0) s3 _ h) t34 kl_8 (CW.of yv_X8_misplaced ml_X0_55) ⟨rfl, rfl, ⟨by decide, by decide⟩, by decide, by decide⟩ rfl hl.1 rfl (by decide) dX0_readMember_14) hS (fun w36 s35 H locs h hW hS => ?_)
    exact r_z C hr hW hS h.1 h.2 dX0_readMember_17
theorem T_X0_readMember (l : Launch) {G : Lay} {D : va_G} {tc : Nat → ClassId} {b0 : Nat} (l0 : Nat) (σ : Mem) (Qx : Int32 → Mem → Prop) (h : X_X0_readMember G Qx l0 σ) : MI l yX0_readMember cX0_readMember 2 ((some FieldType.boolean)) rm_X0_readMember G D tc b0 [rv b0 l0] σ Qx :=
  x_entry (y := yX0_readMember) [.inr (.inr l0)] 1 (by decide) (Nat.le_of_ble_eq_true rfl) (fun p e s m args below meth c ls C hr hW hl => t_X0_readMember_0 C hr va_S.rf hW (hl.keep [true, false] rfl) h)
/-! X0_readPart -/
set_option maxRecDepth 20000 in
set_option maxHeartbeats 4000000 in
theorem t_X0_readPart_44 {p : Program} {l : Launch} {e : Env} {s : State} {m : MethodId} {args : Array Value} {below : List Frame} {meth : Method} {c : Code} {H : Heap} {locs : List Loc} {D : va_G} {tc : Nat → ClassId} {b0 : Nat} {ls : Array Slot} {G : Lay} {Qx : Int32 → Mem → Prop}  {k0 : Int32} {σ : Mem} (C : Cx p s m args meth c cX0_readPart RX0 1 D tc b0) (hr : meth.sig.returnType = (some FieldType.boolean)) (hS : va_S (AA b0) s.heap H locs) (hW : Wd G D tc b0 σ H) (hl : hL b0 ls 1 [none]) (h : X_X0_readPart_44 G Qx  k0 σ) : W p l e rm_X0_readPart s m args below meth c H locs 0 0 (MQ below (va_Qi Qx (fun u t => Pw G D tc b0 u t) (AA b0)) args s 0 0 (AA b0)) (F0 m 44 ls [.int k0]) := by
  have hx := C.1
  have hb := C.2.1
  unfold X_X0_readPart_44 at h
  exact r_z C hr hW hS h.1 h.2 dX0_readPart_44
set_option maxRecDepth 20000 in
set_option maxHeartbeats 4000000 in
theorem t_X0_readPart_0 {p : Program} {l : Launch} {e : Env} {s : State} {m : MethodId} {args : Array Value} {below : List Frame} {meth : Method} {c : Code} {H : Heap} {locs : List Loc} {D : va_G} {tc : Nat → ClassId} {b0 : Nat} {ls : Array Slot} {G : Lay} {Qx : Int32 → Mem → Prop} {l0 : Nat}  {σ : Mem} (C : Cx p s m args meth c cX0_readPart RX0 1 D tc b0) (hr : meth.sig.returnType = (some FieldType.boolean)) (hS : va_S (AA b0) s.heap H locs) (hW : Wd G D tc b0 σ H) (hl : hL b0 ls 1 [some (.inr (.inr l0))]) (h : X_X0_readPart_0 G Qx l0  σ) : W p l e rm_X0_readPart s m args below meth c H locs 0 0 (MQ below (va_Qi Qx (fun u t => Pw G D tc b0 u t) (AA b0)) args s 0 0 (AA b0)) (F0 m 0 ls []) := by
  have hx := C.1
  have hb := C.2.1
  unfold X_X0_readPart_0 at h
  refine x_aload_n C hl dX0_readPart_0 rfl ?_
  have t1 := h.1
  replace h := h.2
  refine x_get C hW (t := 0) (k := 0) t1 kl_0 (by decide) fl_X0_9 (v := rv b0 (mR σ l0 0)) rfl dX0_readPart_1 ?_
  refine lv_ldc2 (own := RX0) (v := (125 : Int64)) hx hb C.2.2.2.1 (C.2.2.2.2.1 _ (gc4 30 rfl rfl)) dX0_readPart_4 ?_
  have t2 := h.1
  replace h := h.2
  refine y_i (x_run (As := [.long (125 : Int64)]) C hW hS (T_X8_takes l (mR σ l0 0) (125 : Int64) σ _ h) t2 kl_8 (CW.of yv_X8_takes ml_X0_84) ⟨rfl, rfl, ⟨by decide, by decide⟩, by decide, by decide⟩ rfl hl.1 rfl (by decide) dX0_readPart_7) hS (fun w4 s3 H locs h hW hS => ?_)
  refine lv_if_eq hx hb dX0_readPart_10 (tgt := 20) rfl (fun hc => ?_) (fun hc => ?_)
  · replace h := h.1 hc
    refine x_aload_n C hl dX0_readPart_20 rfl ?_
    refine x_get C hW (t := 0) (k := 0) t1 kl_0 (by decide) fl_X0_9 (v := rv b0 (mR s3 l0 0)) rfl dX0_readPart_21 ?_
    refine lv_ldc2 (own := RX0) (v := (1752133483 : Int64)) hx hb C.2.2.2.1 (C.2.2.2.2.1 _ (gc4 31 rfl rfl)) dX0_readPart_24 ?_
    have t5 := h.1
    replace h := h.2
    refine y_i (x_run (As := [.long (1752133483 : Int64)]) C hW hS (T_X8_isAt l (mR s3 l0 0) (1752133483 : Int64) s3 _ h) t5 kl_8 (CW.of yv_X8_isAt ml_X0_101) ⟨rfl, rfl, ⟨by decide, by decide⟩, by decide, by decide⟩ rfl hl.1 rfl (by decide) dX0_readPart_27) hS (fun w7 s6 H locs h hW hS => ?_)
    refine lv_if_eq hx hb dX0_readPart_30 (tgt := 40) rfl (fun hc => ?_) (fun hc => ?_)
    · replace h := h.1 hc
      refine x_aload_n C hl dX0_readPart_40 rfl ?_
      refine y_i (x_run (As := []) C hW hS (T_X0_readMember l l0 s6 _ h) t1 kl_0 (CW.of yv_X0_readMember ml_X0_115) ⟨rfl, rfl, ⟨by decide, by decide⟩, by decide, by decide⟩ rfl hl.1 rfl (by decide) dX0_readPart_41) hS (fun w9 s8 H locs h hW hS => ?_)
      exact t_X0_readPart_44 C hr hS hW (hl.keep [false] rfl) h
    · replace h := h.2 hc
      refine x_aload_n C hl dX0_readPart_33 rfl ?_
      refine y_i (x_run (As := []) C hW hS (T_X0_readHook l l0 s6 _ h) t1 kl_0 (CW.of yv_X0_readHook ml_X0_112) ⟨rfl, rfl, ⟨by decide, by decide⟩, by decide, by decide⟩ rfl hl.1 rfl (by decide) dX0_readPart_34) hS (fun w11 s10 H locs h hW hS => ?_)
      refine lv_goto hx hb dX0_readPart_37 (tgt := 44) rfl ?_
      exact t_X0_readPart_44 C hr hS hW (hl.keep [false] rfl) h
  · replace h := h.2 hc
    refine x_aload_n C hl dX0_readPart_13 rfl ?_
    refine x_null C dX0_readPart_14 ?_
    refine x_putR C hW hS (t := 0) (k := 2) t1 kl_0 (by decide) fl_X0_24 rfl rfl (fun o => by cases o <;> rfl) (fun o => by cases o <;> rfl) dX0_readPart_15 (fun H locs hW hS => ?_)
    obtain ⟨s12, e_s12⟩ : ∃ z : Mem, z = (sR s3 l0 2 0) := ⟨_, rfl⟩
    replace h := h s12 e_s12
    replace hW : Wd G D tc b0 s12 H := by rw [e_s12]; exact hW
    refine lv_iconst (v := (1 : Int32)) hx hb dX0_readPart_18 (by decide) ?_
    exact r_z C hr hW hS h.1 h.2 dX0_readPart_19
theorem T_X0_readPart (l : Launch) {G : Lay} {D : va_G} {tc : Nat → ClassId} {b0 : Nat} (l0 : Nat) (σ : Mem) (Qx : Int32 → Mem → Prop) (h : X_X0_readPart G Qx l0 σ) : MI l yX0_readPart cX0_readPart 1 ((some FieldType.boolean)) rm_X0_readPart G D tc b0 [rv b0 l0] σ Qx :=
  x_entry (y := yX0_readPart) [.inr (.inr l0)] 0 (by decide) (Nat.le_of_ble_eq_true rfl) (fun p e s m args below meth c ls C hr hW hl => t_X0_readPart_0 C hr va_S.rf hW (hl.keep [true] rfl) h)
/-! X2_isLeading -/
set_option maxRecDepth 20000 in
set_option maxHeartbeats 4000000 in
theorem t_X2_isLeading_21 {p : Program} {l : Launch} {e : Env} {s : State} {m : MethodId} {args : Array Value} {below : List Frame} {meth : Method} {c : Code} {H : Heap} {locs : List Loc} {D : va_G} {tc : Nat → ClassId} {b0 : Nat} {ls : Array Slot} {G : Lay} {Qx : Int32 → Mem → Prop}  {k0 : Int32} {σ : Mem} (C : Cx p s m args meth c cX2_isLeading RX2 1 D tc b0) (hr : meth.sig.returnType = (some FieldType.boolean)) (hS : va_S (AA b0) s.heap H locs) (hW : Wd G D tc b0 σ H) (hl : hL b0 ls 1 [none]) (h : X_X2_isLeading_21 G Qx  k0 σ) : W p l e rm_X2_isLeading s m args below meth c H locs 0 0 (MQ below (va_Qi Qx (fun u t => Pw G D tc b0 u t) (AA b0)) args s 0 0 (AA b0)) (F0 m 21 ls [.int k0]) := by
  have hx := C.1
  have hb := C.2.1
  unfold X_X2_isLeading_21 at h
  exact r_z C hr hW hS h.1 h.2 dX2_isLeading_21
set_option maxRecDepth 20000 in
set_option maxHeartbeats 4000000 in
theorem t_X2_isLeading_16 {p : Program} {l : Launch} {e : Env} {s : State} {m : MethodId} {args : Array Value} {below : List Frame} {meth : Method} {c : Code} {H : Heap} {locs : List Loc} {D : va_G} {tc : Nat → ClassId} {b0 : Nat} {ls : Array Slot} {G : Lay} {Qx : Int32 → Mem → Prop}   {σ : Mem} (C : Cx p s m args meth c cX2_isLeading RX2 1 D tc b0) (hr : meth.sig.returnType = (some FieldType.boolean)) (hS : va_S (AA b0) s.heap H locs) (hW : Wd G D tc b0 σ H) (hl : hL b0 ls 1 [none]) (h : X_X2_isLeading_16 G Qx   σ) : W p l e rm_X2_isLeading s m args below meth c H locs 0 0 (MQ below (va_Qi Qx (fun u t => Pw G D tc b0 u t) (AA b0)) args s 0 0 (AA b0)) (F0 m 16 ls []) := by
  have hx := C.1
  have hb := C.2.1
  unfold X_X2_isLeading_16 at h
  refine lv_iconst (v := (1 : Int32)) hx hb dX2_isLeading_16 (by decide) ?_
  refine lv_goto hx hb dX2_isLeading_17 (tgt := 21) rfl ?_
  exact t_X2_isLeading_21 C hr hS hW (hl.keep [false] rfl) h
set_option maxRecDepth 20000 in
set_option maxHeartbeats 4000000 in
theorem t_X2_isLeading_0 {p : Program} {l : Launch} {e : Env} {s : State} {m : MethodId} {args : Array Value} {below : List Frame} {meth : Method} {c : Code} {H : Heap} {locs : List Loc} {D : va_G} {tc : Nat → ClassId} {b0 : Nat} {ls : Array Slot} {G : Lay} {Qx : Int32 → Mem → Prop} {l0 : Nat}  {σ : Mem} (C : Cx p s m args meth c cX2_isLeading RX2 1 D tc b0) (hr : meth.sig.returnType = (some FieldType.boolean)) (hS : va_S (AA b0) s.heap H locs) (hW : Wd G D tc b0 σ H) (hl : hL b0 ls 1 [some (.inr (.inr l0))]) (h : X_X2_isLeading_0 G Qx l0  σ) : W p l e rm_X2_isLeading s m args below meth c H locs 0 0 (MQ below (va_Qi Qx (fun u t => Pw G D tc b0 u t) (AA b0)) args s 0 0 (AA b0)) (F0 m 0 ls []) := by
  have hx := C.1
  have hb := C.2.1
  unfold X_X2_isLeading_0 at h
  refine x_aload_n C hl dX2_isLeading_0 rfl ?_
  have t1 := h.1
  replace h := h.2
  refine x_get C hW (t := 2) (k := 2) t1 kl_2 (by decide) fl_X2_31 (v := .int (mI σ l0 2)) rfl dX2_isLeading_1 ?_
  refine lv_iconst (v := (4 : Int32)) hx hb dX2_isLeading_4 (by decide) ?_
  refine lv_icmp_eq hx hb dX2_isLeading_5 (tgt := 16) rfl (fun hc => ?_) (fun hc => ?_)
  · replace h := h.1 hc
    exact t_X2_isLeading_16 C hr hS hW (hl.keep [false] rfl) h
  · replace h := h.2 hc
    refine x_aload_n C hl dX2_isLeading_8 rfl ?_
    refine x_get C hW (t := 2) (k := 2) t1 kl_2 (by decide) fl_X2_31 (v := .int (mI σ l0 2)) rfl dX2_isLeading_9 ?_
    refine lv_iconst (v := (5 : Int32)) hx hb dX2_isLeading_12 (by decide) ?_
    refine lv_icmp_ne hx hb dX2_isLeading_13 (tgt := 20) rfl (fun hc => ?_) (fun hc => ?_)
    · replace h := h.2 hc
      refine lv_iconst (v := (0 : Int32)) hx hb dX2_isLeading_20 (by decide) ?_
      exact t_X2_isLeading_21 C hr hS hW (hl.keep [false] rfl) h
    · replace h := h.1 hc
      exact t_X2_isLeading_16 C hr hS hW (hl.keep [false] rfl) h
theorem T_X2_isLeading (l : Launch) {G : Lay} {D : va_G} {tc : Nat → ClassId} {b0 : Nat} (l0 : Nat) (σ : Mem) (Qx : Int32 → Mem → Prop) (h : X_X2_isLeading G Qx l0 σ) : MI l yX2_isLeading cX2_isLeading 1 ((some FieldType.boolean)) rm_X2_isLeading G D tc b0 [rv b0 l0] σ Qx :=
  x_entry (y := yX2_isLeading) [.inr (.inr l0)] 0 (by decide) (Nat.le_of_ble_eq_true rfl) (fun p e s m args below meth c ls C hr hW hl => t_X2_isLeading_0 C hr va_S.rf hW (hl.keep [true] rfl) h)
/-! X0_findTargets -/
set_option maxRecDepth 20000 in
set_option maxHeartbeats 4000000 in
theorem t_X0_findTargets_45 {p : Program} {l : Launch} {e : Env} {s : State} {m : MethodId} {args : Array Value} {below : List Frame} {meth : Method} {c : Code} {H : Heap} {locs : List Loc} {D : va_G} {tc : Nat → ClassId} {b0 : Nat} {ls : Array Slot} {G : Lay} {Qx : Mem → Prop} {l0 : Nat} {l1 : Int32}  {K2 : Int32 × Mem → Prop} {σ : Mem} (C : Cx p s m args meth c cX0_findTargets RX0 3 D tc b0) (hr : meth.sig.returnType = (none : Option FieldType)) (hK2 : ∀ (x1 : Int32) (σ : Mem) (H : Heap) (locs : List Loc) (ls : Array Slot), va_S (AA b0) s.heap H locs → Wd G D tc b0 σ H → hL b0 ls 3 [some (.inr (.inr l0)), some (.inl x1), none] → K2 (x1, σ) → W p l e rm_X0_findTargets s m args below meth c H locs 0 0 (MQ below (va_Qv Qx (fun u t => Pw G D tc b0 u t) (AA b0)) args s 0 0 (AA b0)) (F0 m 2 ls [])) (hS : va_S (AA b0) s.heap H locs) (hW : Wd G D tc b0 σ H) (hl : hL b0 ls 3 [some (.inr (.inr l0)), some (.inl l1), none]) (h : X_X0_findTargets_45 G Qx K2 l0 l1  σ) : W p l e rm_X0_findTargets s m args below meth c H locs 0 0 (MQ below (va_Qv Qx (fun u t => Pw G D tc b0 u t) (AA b0)) args s 0 0 (AA b0)) (F0 m 45 ls []) := by
  have hx := C.1
  have hb := C.2.1
  unfold X_X0_findTargets_45 at h
  refine x_iinc C hl dX0_findTargets_45 rfl (v := (1 : Int32)) (by decide) (by decide) rfl (fun ls hl => ?_)
  refine lv_goto hx hb dX0_findTargets_48 (tgt := 2) rfl ?_
  exact hK2 _ _ _ _ _ hS hW (hl.keep [true, true, false] rfl) h
set_option maxRecDepth 20000 in
set_option maxHeartbeats 4000000 in
theorem t_X0_findTargets_2_n {p : Program} {l : Launch} {e : Env} {s : State} {m : MethodId} {args : Array Value} {below : List Frame} {meth : Method} {c : Code} {D : va_G} {tc : Nat → ClassId} {b0 : Nat} {G : Lay} {Qx : Mem → Prop} {l0 : Nat} (C : Cx p s m args meth c cX0_findTargets RX0 3 D tc b0) (hr : meth.sig.returnType = (none : Option FieldType)) (n : Nat) : ∀ (l1 : Int32) (σ : Mem) (H : Heap) (locs : List Loc) (ls : Array Slot), va_S (AA b0) s.heap H locs → Wd G D tc b0 σ H → hL b0 ls 3 [some (.inr (.inr l0)), some (.inl l1), none] → Lp (X_X0_findTargets_2_s G Qx l0) n (l1, σ) → W p l e rm_X0_findTargets s m args below meth c H locs 0 0 (MQ below (va_Qv Qx (fun u t => Pw G D tc b0 u t) (AA b0)) args s 0 0 (AA b0)) (F0 m 2 ls []) := by
  have hx := C.1
  have hb := C.2.1
  induction n with
  | zero => intro l1 σ H locs ls hS hW hl h; exact False.elim h
  | succ n hK2 =>
    intro l1 σ H locs ls hS hW hl h
    replace h : X_X0_findTargets_2_s G Qx l0 (Lp (X_X0_findTargets_2_s G Qx l0) n) (l1, σ) := h
    unfold X_X0_findTargets_2_s at h
    refine x_iload_n C hl dX0_findTargets_2 rfl ?_
    refine x_aload_n C hl dX0_findTargets_3 rfl ?_
    have t1 := h.1
    replace h := h.2
    refine x_get C hW (t := 0) (k := 1) t1 kl_0 (by decide) fl_X0_15 (v := rv b0 (mR σ l0 1)) rfl dX0_findTargets_4 ?_
    have t2 := h.1
    replace h := h.2
    refine x_get C hW (t := 6) (k := 2) t2 kl_6 (by decide) fl_X0_247 (v := .int (mI σ (mR σ l0 1) 2)) rfl dX0_findTargets_7 ?_
    refine lv_icmp_ge hx hb dX0_findTargets_10 (tgt := 51) rfl (fun hc => ?_) (fun hc => ?_)
    · replace h := h.1 hc
      exact r_v C hr hW hS h dX0_findTargets_51
    · replace h := h.2 hc
      refine x_aload_n C hl dX0_findTargets_13 rfl ?_
      refine x_get C hW (t := 0) (k := 1) t1 kl_0 (by decide) fl_X0_15 (v := rv b0 (mR σ l0 1)) rfl dX0_findTargets_14 ?_
      refine x_get C hW (t := 6) (k := 3) t2 kl_6 (by decide) fl_X0_250 (v := rv b0 (mR σ (mR σ l0 1) 3)) rfl dX0_findTargets_17 ?_
      refine x_iload_n C hl dX0_findTargets_20 rfl ?_
      have t3 := h.1
      replace h := h.2
      have v4 := h.1
      replace h := h.2
      refine x_aald C hW (t := 104) (t0 := 5) t3 (by decide) rfl v4 dX0_findTargets_21 ?_
      refine x_astore_n C hl dX0_findTargets_22 (by decide) rfl (fun ls hl => ?_)
      refine x_aload_n C hl dX0_findTargets_23 rfl ?_
      have t5 := h.1
      replace h := h.2
      refine y_i (x_run (As := []) C hW hS (T_X2_isLeading l (mR σ (mR σ (mR σ l0 1) 3) l1.toNatClampNeg) σ _ h) t5 kl_2 (CW.of yv_X2_isLeading ml_X0_253) ⟨rfl, rfl, ⟨by decide, by decide⟩, by decide, by decide⟩ rfl hl.1 rfl (by decide) dX0_findTargets_24) hS (fun w7 s6 H locs h hW hS => ?_)
      refine lv_if_eq hx hb dX0_findTargets_27 (tgt := 45) rfl (fun hc => ?_) (fun hc => ?_)
      · replace h := h.1 hc
        exact t_X0_findTargets_45 C hr hK2 hS hW (hl.keep [true, true, false] rfl) h
      · replace h := h.2 hc
        refine x_aload_n C hl dX0_findTargets_30 rfl ?_
        refine x_aload_n C hl dX0_findTargets_31 rfl ?_
        refine x_get C hW (t := 0) (k := 1) t1 kl_0 (by decide) fl_X0_15 (v := rv b0 (mR s6 l0 1)) rfl dX0_findTargets_32 ?_
        refine x_aload_n C hl dX0_findTargets_35 rfl ?_
        refine x_get C hW (t := 2) (k := 6) t5 kl_2 (by decide) fl_X0_238 (v := .long (mJ s6 (mR σ (mR σ (mR σ l0 1) 3) l1.toNatClampNeg) 6)) rfl dX0_findTargets_36 ?_
        have t8 := h.1
        replace h := h.2
        refine y_i (x_run (As := [.long (mJ s6 (mR σ (mR σ (mR σ l0 1) 3) l1.toNatClampNeg) 6)]) C hW hS (T_X6_classNamed l (mR s6 l0 1) (mJ s6 (mR σ (mR σ (mR σ l0 1) 3) l1.toNatClampNeg) 6) s6 _ h) t8 kl_6 (CW.of yv_X6_classNamed ml_X0_62) ⟨rfl, rfl, ⟨by decide, by decide⟩, by decide, by decide⟩ rfl hl.1 rfl (by simp [rv_cat, cat_i, cat_l]) dX0_findTargets_39) hS (fun w10 s9 H locs h hW hS => ?_)
        refine x_putI C hW hS (t := 2) (k := 8) t5 kl_2 (by decide) fl_X0_256 rfl rfl rfl rfl dX0_findTargets_42 (fun H locs hW hS => ?_)
        obtain ⟨s11, e_s11⟩ : ∃ z : Mem, z = (sI s9 (mR σ (mR σ (mR σ l0 1) 3) l1.toNatClampNeg) 8 w10) := ⟨_, rfl⟩
        replace h := h s11 e_s11
        replace hW : Wd G D tc b0 s11 H := by rw [e_s11]; exact hW
        exact t_X0_findTargets_45 C hr hK2 hS hW (hl.keep [true, true, false] rfl) h
set_option maxRecDepth 20000 in
set_option maxHeartbeats 4000000 in
theorem t_X0_findTargets_2 {p : Program} {l : Launch} {e : Env} {s : State} {m : MethodId} {args : Array Value} {below : List Frame} {meth : Method} {c : Code} {H : Heap} {locs : List Loc} {D : va_G} {tc : Nat → ClassId} {b0 : Nat} {ls : Array Slot} {G : Lay} {Qx : Mem → Prop} {l0 : Nat} {l1 : Int32}  {σ : Mem} (C : Cx p s m args meth c cX0_findTargets RX0 3 D tc b0) (hr : meth.sig.returnType = (none : Option FieldType)) (hS : va_S (AA b0) s.heap H locs) (hW : Wd G D tc b0 σ H) (hl : hL b0 ls 3 [some (.inr (.inr l0)), some (.inl l1), none]) (h : X_X0_findTargets_2 G Qx l0 l1 σ) : W p l e rm_X0_findTargets s m args below meth c H locs 0 0 (MQ below (va_Qv Qx (fun u t => Pw G D tc b0 u t) (AA b0)) args s 0 0 (AA b0)) (F0 m 2 ls []) := by
  obtain ⟨n, h⟩ := h
  exact t_X0_findTargets_2_n C hr n l1 σ H locs ls hS hW hl h
set_option maxRecDepth 20000 in
set_option maxHeartbeats 4000000 in
theorem t_X0_findTargets_0 {p : Program} {l : Launch} {e : Env} {s : State} {m : MethodId} {args : Array Value} {below : List Frame} {meth : Method} {c : Code} {H : Heap} {locs : List Loc} {D : va_G} {tc : Nat → ClassId} {b0 : Nat} {ls : Array Slot} {G : Lay} {Qx : Mem → Prop} {l0 : Nat}  {σ : Mem} (C : Cx p s m args meth c cX0_findTargets RX0 3 D tc b0) (hr : meth.sig.returnType = (none : Option FieldType)) (hS : va_S (AA b0) s.heap H locs) (hW : Wd G D tc b0 σ H) (hl : hL b0 ls 3 [some (.inr (.inr l0)), none, none]) (h : X_X0_findTargets_0 G Qx l0  σ) : W p l e rm_X0_findTargets s m args below meth c H locs 0 0 (MQ below (va_Qv Qx (fun u t => Pw G D tc b0 u t) (AA b0)) args s 0 0 (AA b0)) (F0 m 0 ls []) := by
  have hx := C.1
  have hb := C.2.1
  unfold X_X0_findTargets_0 at h
  refine lv_iconst (v := (0 : Int32)) hx hb dX0_findTargets_0 (by decide) ?_
  refine x_istore_n C hl dX0_findTargets_1 (by decide) rfl (fun ls hl => ?_)
  exact t_X0_findTargets_2 C hr hS hW (hl.keep [true, true, false] rfl) h
theorem T_X0_findTargets (l : Launch) {G : Lay} {D : va_G} {tc : Nat → ClassId} {b0 : Nat} (l0 : Nat) (σ : Mem) (Qx : Mem → Prop) (h : X_X0_findTargets G Qx l0 σ) : MV l yX0_findTargets cX0_findTargets 3 ((none : Option FieldType)) rm_X0_findTargets G D tc b0 [rv b0 l0] σ Qx :=
  x_entry (y := yX0_findTargets) [.inr (.inr l0)] 2 (by decide) (Nat.le_of_ble_eq_true rfl) (fun p e s m args below meth c ls C hr hW hl => t_X0_findTargets_0 C hr va_S.rf hW (hl.keep [true, false, false] rfl) h)
/-! X6_memberNamed -/
set_option maxRecDepth 20000 in
set_option maxHeartbeats 4000000 in
theorem t_X6_memberNamed_22 {p : Program} {l : Launch} {e : Env} {s : State} {m : MethodId} {args : Array Value} {below : List Frame} {meth : Method} {c : Code} {H : Heap} {locs : List Loc} {D : va_G} {tc : Nat → ClassId} {b0 : Nat} {ls : Array Slot} {G : Lay} {Qx : Int32 → Mem → Prop}  {k0 : Int32} {σ : Mem} (C : Cx p s m args meth c cX6_memberNamed RX6 5 D tc b0) (hr : meth.sig.returnType = (some FieldType.int)) (hS : va_S (AA b0) s.heap H locs) (hW : Wd G D tc b0 σ H) (hl : hL b0 ls 5 [none, none, none, none, none]) (h : X_X6_memberNamed_22 G Qx  k0 σ) : W p l e rm_X6_memberNamed s m args below meth c H locs 0 0 (MQ below (va_Qi Qx (fun u t => Pw G D tc b0 u t) (AA b0)) args s 0 0 (AA b0)) (F0 m 22 ls [.int k0]) := by
  have hx := C.1
  have hb := C.2.1
  unfold X_X6_memberNamed_22 at h
  exact r_i C hr hW hS h dX6_memberNamed_22
set_option maxRecDepth 20000 in
set_option maxHeartbeats 4000000 in
theorem t_X6_memberNamed_0 {p : Program} {l : Launch} {e : Env} {s : State} {m : MethodId} {args : Array Value} {below : List Frame} {meth : Method} {c : Code} {H : Heap} {locs : List Loc} {D : va_G} {tc : Nat → ClassId} {b0 : Nat} {ls : Array Slot} {G : Lay} {Qx : Int32 → Mem → Prop} {l0 : Nat} {l1 : Int32} {l2 : Int64}  {σ : Mem} (C : Cx p s m args meth c cX6_memberNamed RX6 5 D tc b0) (hr : meth.sig.returnType = (some FieldType.int)) (hS : va_S (AA b0) s.heap H locs) (hW : Wd G D tc b0 σ H) (hl : hL b0 ls 5 [some (.inr (.inr l0)), some (.inl l1), some (.inr (.inl l2)), none, none]) (h : X_X6_memberNamed_0 G Qx l0 l1 l2  σ) : W p l e rm_X6_memberNamed s m args below meth c H locs 0 0 (MQ below (va_Qi Qx (fun u t => Pw G D tc b0 u t) (AA b0)) args s 0 0 (AA b0)) (F0 m 0 ls []) := by
  have hx := C.1
  have hb := C.2.1
  unfold X_X6_memberNamed_0 at h
  refine x_aload_n C hl dX6_memberNamed_0 rfl ?_
  refine x_iload_n C hl dX6_memberNamed_1 rfl ?_
  have t1 := h.1
  replace h := h.2
  refine y_r (x_run (As := [.int l1]) C hW hS (T_X6_kindAt l l0 l1 σ _ h) t1 kl_6 (CW.of yv_X6_kindAt ml_X6_42) ⟨rfl, rfl, ⟨by decide, by decide⟩, by decide, by decide⟩ rfl hl.1 rfl (by decide) dX6_memberNamed_2) hS (fun w3 s2 H locs h hW hS => ?_)
  refine x_astore C hl dX6_memberNamed_5 (by decide) rfl (fun ls hl => ?_)
  refine x_aload C hl dX6_memberNamed_7 rfl ?_
  refine x_ifnonnull C dX6_memberNamed_9 (tgt := 16) rfl (fun hc => ?_) (fun hc => ?_)
  · replace h := h.2 hc
    refine x_aload C hl dX6_memberNamed_16 rfl ?_
    refine x_lload_n C hl dX6_memberNamed_18 rfl ?_
    have t4 := h.1
    replace h := h.2
    refine y_i (x_run (As := [.long l2]) C hW hS (T_X1_memberNamed l w3 l2 s2 _ h) t4 kl_1 (CW.of yv_X1_memberNamed ml_X6_52) ⟨rfl, rfl, ⟨by decide, by decide⟩, by decide, by decide⟩ rfl hl.1 rfl (by decide) dX6_memberNamed_19) hS (fun w6 s5 H locs h hW hS => ?_)
    exact t_X6_memberNamed_22 C hr hS hW (hl.keep [false, false, false, false, false] rfl) h
  · replace h := h.1 hc
    refine lv_iconst (v := (-1 : Int32)) hx hb dX6_memberNamed_12 (by decide) ?_
    refine lv_goto hx hb dX6_memberNamed_13 (tgt := 22) rfl ?_
    exact t_X6_memberNamed_22 C hr hS hW (hl.keep [false, false, false, false, false] rfl) h
theorem T_X6_memberNamed (l : Launch) {G : Lay} {D : va_G} {tc : Nat → ClassId} {b0 : Nat} (l0 : Nat) (l1 : Int32) (l2 : Int64) (σ : Mem) (Qx : Int32 → Mem → Prop) (h : X_X6_memberNamed G Qx l0 l1 l2 σ) : MI l yX6_memberNamed cX6_memberNamed 5 ((some FieldType.int)) rm_X6_memberNamed G D tc b0 [rv b0 l0, .int l1, .long l2] σ Qx :=
  x_entry (y := yX6_memberNamed) [.inr (.inr l0), .inl l1, .inr (.inl l2)] 1 (by decide) (Nat.le_of_ble_eq_true rfl) (fun p e s m args below meth c ls C hr hW hl => t_X6_memberNamed_0 C hr va_S.rf hW (hl.keep [true, true, true, false, false] rfl) h)
/-! X6_memberAt -/
set_option maxRecDepth 20000 in
set_option maxHeartbeats 4000000 in
theorem t_X6_memberAt_32 {p : Program} {l : Launch} {e : Env} {s : State} {m : MethodId} {args : Array Value} {below : List Frame} {meth : Method} {c : Code} {H : Heap} {locs : List Loc} {D : va_G} {tc : Nat → ClassId} {b0 : Nat} {ls : Array Slot} {G : Lay} {Qx : Nat → Mem → Prop}  {k0 : Nat} {σ : Mem} (C : Cx p s m args meth c cX6_memberAt RX6 4 D tc b0) (hr : meth.sig.returnType = (some (FieldType.object "BeeRegister$Member"))) (hS : va_S (AA b0) s.heap H locs) (hW : Wd G D tc b0 σ H) (hl : hL b0 ls 4 [none, none, none, none]) (h : X_X6_memberAt_32 G Qx  k0 σ) : W p l e rm_X6_memberAt s m args below meth c H locs 0 0 (MQ below (va_Qq (fun o u => ∃ r, o = ro b0 r ∧ Qx r u) (fun u t => Pw G D tc b0 u t) (AA b0)) args s 0 0 (AA b0)) (F0 m 32 ls [rv b0 k0]) := by
  have hx := C.1
  have hb := C.2.1
  unfold X_X6_memberAt_32 at h
  exact r_r C hr hW hS h dX6_memberAt_32
set_option maxRecDepth 20000 in
set_option maxHeartbeats 4000000 in
theorem t_X6_memberAt_22 {p : Program} {l : Launch} {e : Env} {s : State} {m : MethodId} {args : Array Value} {below : List Frame} {meth : Method} {c : Code} {H : Heap} {locs : List Loc} {D : va_G} {tc : Nat → ClassId} {b0 : Nat} {ls : Array Slot} {G : Lay} {Qx : Nat → Mem → Prop}   {σ : Mem} (C : Cx p s m args meth c cX6_memberAt RX6 4 D tc b0) (hr : meth.sig.returnType = (some (FieldType.object "BeeRegister$Member"))) (hS : va_S (AA b0) s.heap H locs) (hW : Wd G D tc b0 σ H) (hl : hL b0 ls 4 [none, none, none, none]) (h : X_X6_memberAt_22 G Qx   σ) : W p l e rm_X6_memberAt s m args below meth c H locs 0 0 (MQ below (va_Qq (fun o u => ∃ r, o = ro b0 r ∧ Qx r u) (fun u t => Pw G D tc b0 u t) (AA b0)) args s 0 0 (AA b0)) (F0 m 22 ls []) := by
  have hx := C.1
  have hb := C.2.1
  unfold X_X6_memberAt_22 at h
  refine x_null C dX6_memberAt_22 ?_
  refine lv_goto hx hb dX6_memberAt_23 (tgt := 32) rfl ?_
  exact t_X6_memberAt_32 C hr hS hW (hl.keep [false, false, false, false] rfl) h
set_option maxRecDepth 20000 in
set_option maxHeartbeats 4000000 in
theorem t_X6_memberAt_0 {p : Program} {l : Launch} {e : Env} {s : State} {m : MethodId} {args : Array Value} {below : List Frame} {meth : Method} {c : Code} {H : Heap} {locs : List Loc} {D : va_G} {tc : Nat → ClassId} {b0 : Nat} {ls : Array Slot} {G : Lay} {Qx : Nat → Mem → Prop} {l0 : Nat} {l1 : Int32} {l2 : Int32}  {σ : Mem} (C : Cx p s m args meth c cX6_memberAt RX6 4 D tc b0) (hr : meth.sig.returnType = (some (FieldType.object "BeeRegister$Member"))) (hS : va_S (AA b0) s.heap H locs) (hW : Wd G D tc b0 σ H) (hl : hL b0 ls 4 [some (.inr (.inr l0)), some (.inl l1), some (.inl l2), none]) (h : X_X6_memberAt_0 G Qx l0 l1 l2  σ) : W p l e rm_X6_memberAt s m args below meth c H locs 0 0 (MQ below (va_Qq (fun o u => ∃ r, o = ro b0 r ∧ Qx r u) (fun u t => Pw G D tc b0 u t) (AA b0)) args s 0 0 (AA b0)) (F0 m 0 ls []) := by
  have hx := C.1
  have hb := C.2.1
  unfold X_X6_memberAt_0 at h
  refine x_aload_n C hl dX6_memberAt_0 rfl ?_
  refine x_iload_n C hl dX6_memberAt_1 rfl ?_
  have t1 := h.1
  replace h := h.2
  refine y_r (x_run (As := [.int l1]) C hW hS (T_X6_kindAt l l0 l1 σ _ h) t1 kl_6 (CW.of yv_X6_kindAt ml_X6_42) ⟨rfl, rfl, ⟨by decide, by decide⟩, by decide, by decide⟩ rfl hl.1 rfl (by decide) dX6_memberAt_2) hS (fun w3 s2 H locs h hW hS => ?_)
  refine x_astore_n C hl dX6_memberAt_5 (by decide) rfl (fun ls hl => ?_)
  refine x_aload_n C hl dX6_memberAt_6 rfl ?_
  refine x_ifnull C dX6_memberAt_7 (tgt := 22) rfl (fun hc => ?_) (fun hc => ?_)
  · replace h := h.1 hc
    exact t_X6_memberAt_22 C hr hS hW (hl.keep [false, false, false, false] rfl) h
  · replace h := h.2 hc
    refine x_iload_n C hl dX6_memberAt_10 rfl ?_
    refine lv_if_lt hx hb dX6_memberAt_11 (tgt := 22) rfl (fun hc => ?_) (fun hc => ?_)
    · replace h := h.1 hc
      exact t_X6_memberAt_22 C hr hS hW (hl.keep [false, false, false, false] rfl) h
    · replace h := h.2 hc
      refine x_iload_n C hl dX6_memberAt_14 rfl ?_
      refine x_aload_n C hl dX6_memberAt_15 rfl ?_
      have t4 := h.1
      replace h := h.2
      refine x_get C hW (t := 1) (k := 4) t4 kl_1 (by decide) fl_X6_46 (v := .int (mI s2 w3 4)) rfl dX6_memberAt_16 ?_
      refine lv_icmp_lt hx hb dX6_memberAt_19 (tgt := 26) rfl (fun hc => ?_) (fun hc => ?_)
      · replace h := h.1 hc
        refine x_aload_n C hl dX6_memberAt_26 rfl ?_
        refine x_get C hW (t := 1) (k := 5) t4 kl_1 (by decide) fl_X6_49 (v := rv b0 (mR s2 w3 5)) rfl dX6_memberAt_27 ?_
        refine x_iload_n C hl dX6_memberAt_30 rfl ?_
        have t5 := h.1
        replace h := h.2
        have v6 := h.1
        replace h := h.2
        refine x_aald C hW (t := 104) (t0 := 5) t5 (by decide) rfl v6 dX6_memberAt_31 ?_
        exact t_X6_memberAt_32 C hr hS hW (hl.keep [false, false, false, false] rfl) h
      · replace h := h.2 hc
        exact t_X6_memberAt_22 C hr hS hW (hl.keep [false, false, false, false] rfl) h
theorem T_X6_memberAt (l : Launch) {G : Lay} {D : va_G} {tc : Nat → ClassId} {b0 : Nat} (l0 : Nat) (l1 : Int32) (l2 : Int32) (σ : Mem) (Qx : Nat → Mem → Prop) (h : X_X6_memberAt G Qx l0 l1 l2 σ) : MR l yX6_memberAt cX6_memberAt 4 ((some (FieldType.object "BeeRegister$Member"))) rm_X6_memberAt G D tc b0 [rv b0 l0, .int l1, .int l2] σ Qx :=
  x_entry (y := yX6_memberAt) [.inr (.inr l0), .inl l1, .inl l2] 1 (by decide) (Nat.le_of_ble_eq_true rfl) (fun p e s m args below meth c ls C hr hW hl => t_X6_memberAt_0 C hr va_S.rf hW (hl.keep [true, true, true, false] rfl) h)
