/-! X7_isAhead -/
set_option maxRecDepth 20000 in
set_option maxHeartbeats 4000000 in
theorem t_X7_isAhead_46 {p : Program} {l : Launch} {e : Env} {s : State} {m : MethodId} {args : Array Value} {below : List Frame} {meth : Method} {c : Code} {H : Heap} {locs : List Loc} {D : va_G} {tc : Nat → ClassId} {b0 : Nat} {ls : Array Slot} {G : Lay} {Qx : Int32 → Mem → Prop}  {k0 : Int32} {σ : Mem} (C : Cx p s m args meth c cX7_isAhead RX7 2 D tc b0) (hr : meth.sig.returnType = (some FieldType.boolean)) (hS : va_S (AA b0) s.heap H locs) (hW : Wd G D tc b0 σ H) (hl : hL b0 ls 2 [none, none]) (h : X_X7_isAhead_46 G Qx  k0 σ) : W p l e rm_X7_isAhead s m args below meth c H locs 0 0 (MQ below (va_Qi Qx (fun u t => Pw G D tc b0 u t) (AA b0)) args s 0 0 (AA b0)) (F0 m 46 ls [.int k0]) := by
  have hx := C.1
  have hb := C.2.1
  unfold X_X7_isAhead_46 at h
  exact r_z C hr hW hS h.1 h.2 dX7_isAhead_46
set_option maxRecDepth 20000 in
set_option maxHeartbeats 4000000 in
theorem t_X7_isAhead_0 {p : Program} {l : Launch} {e : Env} {s : State} {m : MethodId} {args : Array Value} {below : List Frame} {meth : Method} {c : Code} {H : Heap} {locs : List Loc} {D : va_G} {tc : Nat → ClassId} {b0 : Nat} {ls : Array Slot} {G : Lay} {Qx : Int32 → Mem → Prop} {l0 : Nat} {l1 : Nat}  {σ : Mem} (C : Cx p s m args meth c cX7_isAhead RX7 2 D tc b0) (hr : meth.sig.returnType = (some FieldType.boolean)) (hS : va_S (AA b0) s.heap H locs) (hW : Wd G D tc b0 σ H) (hl : hL b0 ls 2 [some (.inr (.inr l0)), some (.inr (.inr l1))]) (h : X_X7_isAhead_0 G Qx l0 l1  σ) : W p l e rm_X7_isAhead s m args below meth c H locs 0 0 (MQ below (va_Qi Qx (fun u t => Pw G D tc b0 u t) (AA b0)) args s 0 0 (AA b0)) (F0 m 0 ls []) := by
  have hx := C.1
  have hb := C.2.1
  unfold X_X7_isAhead_0 at h
  refine x_aload_n C hl dX7_isAhead_0 rfl ?_
  have t1 := h.1
  replace h := h.2
  refine x_get C hW (t := 7) (k := 4) t1 kl_7 (by decide) fl_X7_31 (v := .int (mI σ l0 4)) rfl dX7_isAhead_1 ?_
  refine x_aload_n C hl dX7_isAhead_4 rfl ?_
  have t2 := h.1
  replace h := h.2
  refine x_get C hW (t := 7) (k := 4) t2 kl_7 (by decide) fl_X7_31 (v := .int (mI σ l1 4)) rfl dX7_isAhead_5 ?_
  refine lv_icmp_eq hx hb dX7_isAhead_8 (tgt := 30) rfl (fun hc => ?_) (fun hc => ?_)
  · replace h := h.1 hc
    refine x_aload_n C hl dX7_isAhead_30 rfl ?_
    refine x_get C hW (t := 7) (k := 3) t1 kl_7 (by decide) fl_X7_28 (v := .int (mI σ l0 3)) rfl dX7_isAhead_31 ?_
    refine x_aload_n C hl dX7_isAhead_34 rfl ?_
    refine x_get C hW (t := 7) (k := 3) t2 kl_7 (by decide) fl_X7_28 (v := .int (mI σ l1 3)) rfl dX7_isAhead_35 ?_
    refine lv_icmp_ge hx hb dX7_isAhead_38 (tgt := 45) rfl (fun hc => ?_) (fun hc => ?_)
    · replace h := h.1 hc
      refine lv_iconst (v := (0 : Int32)) hx hb dX7_isAhead_45 (by decide) ?_
      exact t_X7_isAhead_46 C hr hS hW (hl.keep [false, false] rfl) h
    · replace h := h.2 hc
      refine lv_iconst (v := (1 : Int32)) hx hb dX7_isAhead_41 (by decide) ?_
      refine lv_goto hx hb dX7_isAhead_42 (tgt := 46) rfl ?_
      exact t_X7_isAhead_46 C hr hS hW (hl.keep [false, false] rfl) h
  · replace h := h.2 hc
    refine x_aload_n C hl dX7_isAhead_11 rfl ?_
    refine x_get C hW (t := 7) (k := 4) t1 kl_7 (by decide) fl_X7_31 (v := .int (mI σ l0 4)) rfl dX7_isAhead_12 ?_
    refine x_aload_n C hl dX7_isAhead_15 rfl ?_
    refine x_get C hW (t := 7) (k := 4) t2 kl_7 (by decide) fl_X7_31 (v := .int (mI σ l1 4)) rfl dX7_isAhead_16 ?_
    refine lv_icmp_ge hx hb dX7_isAhead_19 (tgt := 26) rfl (fun hc => ?_) (fun hc => ?_)
    · replace h := h.1 hc
      refine lv_iconst (v := (0 : Int32)) hx hb dX7_isAhead_26 (by decide) ?_
      refine lv_goto hx hb dX7_isAhead_27 (tgt := 46) rfl ?_
      exact t_X7_isAhead_46 C hr hS hW (hl.keep [false, false] rfl) h
    · replace h := h.2 hc
      refine lv_iconst (v := (1 : Int32)) hx hb dX7_isAhead_22 (by decide) ?_
      refine lv_goto hx hb dX7_isAhead_23 (tgt := 46) rfl ?_
      exact t_X7_isAhead_46 C hr hS hW (hl.keep [false, false] rfl) h
theorem T_X7_isAhead (l : Launch) {G : Lay} {D : va_G} {tc : Nat → ClassId} {b0 : Nat} (l0 : Nat) (l1 : Nat) (σ : Mem) (Qx : Int32 → Mem → Prop) (h : X_X7_isAhead G Qx l0 l1 σ) : MI l yX7_isAhead cX7_isAhead 2 ((some FieldType.boolean)) rm_X7_isAhead G D tc b0 [rv b0 l0, rv b0 l1] σ Qx :=
  x_entry (y := yX7_isAhead) [.inr (.inr l0), .inr (.inr l1)] 0 (by decide) (Nat.le_of_ble_eq_true rfl) (fun p e s m args below meth c ls C hr hW hl => t_X7_isAhead_0 C hr va_S.rf hW (hl.keep [true, true] rfl) h)
/-! X8_isBlank -/
set_option maxRecDepth 20000 in
set_option maxHeartbeats 4000000 in
theorem t_X8_isBlank_29 {p : Program} {l : Launch} {e : Env} {s : State} {m : MethodId} {args : Array Value} {below : List Frame} {meth : Method} {c : Code} {H : Heap} {locs : List Loc} {D : va_G} {tc : Nat → ClassId} {b0 : Nat} {ls : Array Slot} {G : Lay} {Qx : Int32 → Mem → Prop}  {k0 : Int32} {σ : Mem} (C : Cx p s m args meth c cX8_isBlank RX8 1 D tc b0) (hr : meth.sig.returnType = (some FieldType.boolean)) (hS : va_S (AA b0) s.heap H locs) (hW : Wd G D tc b0 σ H) (hl : hL b0 ls 1 [none]) (h : X_X8_isBlank_29 G Qx  k0 σ) : W p l e rm_X8_isBlank s m args below meth c H locs 0 0 (MQ below (va_Qi Qx (fun u t => Pw G D tc b0 u t) (AA b0)) args s 0 0 (AA b0)) (F0 m 29 ls [.int k0]) := by
  have hx := C.1
  have hb := C.2.1
  unfold X_X8_isBlank_29 at h
  exact r_z C hr hW hS h.1 h.2 dX8_isBlank_29
set_option maxRecDepth 20000 in
set_option maxHeartbeats 4000000 in
theorem t_X8_isBlank_24 {p : Program} {l : Launch} {e : Env} {s : State} {m : MethodId} {args : Array Value} {below : List Frame} {meth : Method} {c : Code} {H : Heap} {locs : List Loc} {D : va_G} {tc : Nat → ClassId} {b0 : Nat} {ls : Array Slot} {G : Lay} {Qx : Int32 → Mem → Prop}   {σ : Mem} (C : Cx p s m args meth c cX8_isBlank RX8 1 D tc b0) (hr : meth.sig.returnType = (some FieldType.boolean)) (hS : va_S (AA b0) s.heap H locs) (hW : Wd G D tc b0 σ H) (hl : hL b0 ls 1 [none]) (h : X_X8_isBlank_24 G Qx   σ) : W p l e rm_X8_isBlank s m args below meth c H locs 0 0 (MQ below (va_Qi Qx (fun u t => Pw G D tc b0 u t) (AA b0)) args s 0 0 (AA b0)) (F0 m 24 ls []) := by
  have hx := C.1
  have hb := C.2.1
  unfold X_X8_isBlank_24 at h
  refine lv_iconst (v := (1 : Int32)) hx hb dX8_isBlank_24 (by decide) ?_
  refine lv_goto hx hb dX8_isBlank_25 (tgt := 29) rfl ?_
  exact t_X8_isBlank_29 C hr hS hW (hl.keep [false] rfl) h
set_option maxRecDepth 20000 in
set_option maxHeartbeats 4000000 in
theorem t_X8_isBlank_0 {p : Program} {l : Launch} {e : Env} {s : State} {m : MethodId} {args : Array Value} {below : List Frame} {meth : Method} {c : Code} {H : Heap} {locs : List Loc} {D : va_G} {tc : Nat → ClassId} {b0 : Nat} {ls : Array Slot} {G : Lay} {Qx : Int32 → Mem → Prop} {l0 : Int32}  {σ : Mem} (C : Cx p s m args meth c cX8_isBlank RX8 1 D tc b0) (hr : meth.sig.returnType = (some FieldType.boolean)) (hS : va_S (AA b0) s.heap H locs) (hW : Wd G D tc b0 σ H) (hl : hL b0 ls 1 [some (.inl l0)]) (h : X_X8_isBlank_0 G Qx l0  σ) : W p l e rm_X8_isBlank s m args below meth c H locs 0 0 (MQ below (va_Qi Qx (fun u t => Pw G D tc b0 u t) (AA b0)) args s 0 0 (AA b0)) (F0 m 0 ls []) := by
  have hx := C.1
  have hb := C.2.1
  unfold X_X8_isBlank_0 at h
  refine x_iload_n C hl dX8_isBlank_0 rfl ?_
  refine lv_bipush (v := (9 : Int32)) hx hb dX8_isBlank_1 (by decide) ?_
  refine lv_icmp_eq hx hb dX8_isBlank_3 (tgt := 24) rfl (fun hc => ?_) (fun hc => ?_)
  · replace h := h.1 hc
    exact t_X8_isBlank_24 C hr hS hW (hl.keep [false] rfl) h
  · replace h := h.2 hc
    refine x_iload_n C hl dX8_isBlank_6 rfl ?_
    refine lv_bipush (v := (10 : Int32)) hx hb dX8_isBlank_7 (by decide) ?_
    refine lv_icmp_eq hx hb dX8_isBlank_9 (tgt := 24) rfl (fun hc => ?_) (fun hc => ?_)
    · replace h := h.1 hc
      exact t_X8_isBlank_24 C hr hS hW (hl.keep [false] rfl) h
    · replace h := h.2 hc
      refine x_iload_n C hl dX8_isBlank_12 rfl ?_
      refine lv_bipush (v := (13 : Int32)) hx hb dX8_isBlank_13 (by decide) ?_
      refine lv_icmp_eq hx hb dX8_isBlank_15 (tgt := 24) rfl (fun hc => ?_) (fun hc => ?_)
      · replace h := h.1 hc
        exact t_X8_isBlank_24 C hr hS hW (hl.keep [false] rfl) h
      · replace h := h.2 hc
        refine x_iload_n C hl dX8_isBlank_18 rfl ?_
        refine lv_bipush (v := (32 : Int32)) hx hb dX8_isBlank_19 (by decide) ?_
        refine lv_icmp_ne hx hb dX8_isBlank_21 (tgt := 28) rfl (fun hc => ?_) (fun hc => ?_)
        · replace h := h.2 hc
          refine lv_iconst (v := (0 : Int32)) hx hb dX8_isBlank_28 (by decide) ?_
          exact t_X8_isBlank_29 C hr hS hW (hl.keep [false] rfl) h
        · replace h := h.1 hc
          exact t_X8_isBlank_24 C hr hS hW (hl.keep [false] rfl) h
theorem T_X8_isBlank (l : Launch) {G : Lay} {D : va_G} {tc : Nat → ClassId} {b0 : Nat} (l0 : Int32) (σ : Mem) (Qx : Int32 → Mem → Prop) (h : X_X8_isBlank G Qx l0 σ) : MI l yX8_isBlank cX8_isBlank 1 ((some FieldType.boolean)) rm_X8_isBlank G D tc b0 [.int l0] σ Qx :=
  x_entry (y := yX8_isBlank) [.inl l0] 0 (by decide) (Nat.le_of_ble_eq_true rfl) (fun p e s m args below meth c ls C hr hW hl => t_X8_isBlank_0 C hr va_S.rf hW (hl.keep [true] rfl) h)
/-! X8_isLetter -/
set_option maxRecDepth 20000 in
set_option maxHeartbeats 4000000 in
theorem t_X8_isLetter_29 {p : Program} {l : Launch} {e : Env} {s : State} {m : MethodId} {args : Array Value} {below : List Frame} {meth : Method} {c : Code} {H : Heap} {locs : List Loc} {D : va_G} {tc : Nat → ClassId} {b0 : Nat} {ls : Array Slot} {G : Lay} {Qx : Int32 → Mem → Prop}  {k0 : Int32} {σ : Mem} (C : Cx p s m args meth c cX8_isLetter RX8 1 D tc b0) (hr : meth.sig.returnType = (some FieldType.boolean)) (hS : va_S (AA b0) s.heap H locs) (hW : Wd G D tc b0 σ H) (hl : hL b0 ls 1 [none]) (h : X_X8_isLetter_29 G Qx  k0 σ) : W p l e rm_X8_isLetter s m args below meth c H locs 0 0 (MQ below (va_Qi Qx (fun u t => Pw G D tc b0 u t) (AA b0)) args s 0 0 (AA b0)) (F0 m 29 ls [.int k0]) := by
  have hx := C.1
  have hb := C.2.1
  unfold X_X8_isLetter_29 at h
  exact r_z C hr hW hS h.1 h.2 dX8_isLetter_29
set_option maxRecDepth 20000 in
set_option maxHeartbeats 4000000 in
theorem t_X8_isLetter_24 {p : Program} {l : Launch} {e : Env} {s : State} {m : MethodId} {args : Array Value} {below : List Frame} {meth : Method} {c : Code} {H : Heap} {locs : List Loc} {D : va_G} {tc : Nat → ClassId} {b0 : Nat} {ls : Array Slot} {G : Lay} {Qx : Int32 → Mem → Prop}   {σ : Mem} (C : Cx p s m args meth c cX8_isLetter RX8 1 D tc b0) (hr : meth.sig.returnType = (some FieldType.boolean)) (hS : va_S (AA b0) s.heap H locs) (hW : Wd G D tc b0 σ H) (hl : hL b0 ls 1 [none]) (h : X_X8_isLetter_24 G Qx   σ) : W p l e rm_X8_isLetter s m args below meth c H locs 0 0 (MQ below (va_Qi Qx (fun u t => Pw G D tc b0 u t) (AA b0)) args s 0 0 (AA b0)) (F0 m 24 ls []) := by
  have hx := C.1
  have hb := C.2.1
  unfold X_X8_isLetter_24 at h
  refine lv_iconst (v := (1 : Int32)) hx hb dX8_isLetter_24 (by decide) ?_
  refine lv_goto hx hb dX8_isLetter_25 (tgt := 29) rfl ?_
  exact t_X8_isLetter_29 C hr hS hW (hl.keep [false] rfl) h
set_option maxRecDepth 20000 in
set_option maxHeartbeats 4000000 in
theorem t_X8_isLetter_28 {p : Program} {l : Launch} {e : Env} {s : State} {m : MethodId} {args : Array Value} {below : List Frame} {meth : Method} {c : Code} {H : Heap} {locs : List Loc} {D : va_G} {tc : Nat → ClassId} {b0 : Nat} {ls : Array Slot} {G : Lay} {Qx : Int32 → Mem → Prop}   {σ : Mem} (C : Cx p s m args meth c cX8_isLetter RX8 1 D tc b0) (hr : meth.sig.returnType = (some FieldType.boolean)) (hS : va_S (AA b0) s.heap H locs) (hW : Wd G D tc b0 σ H) (hl : hL b0 ls 1 [none]) (h : X_X8_isLetter_28 G Qx   σ) : W p l e rm_X8_isLetter s m args below meth c H locs 0 0 (MQ below (va_Qi Qx (fun u t => Pw G D tc b0 u t) (AA b0)) args s 0 0 (AA b0)) (F0 m 28 ls []) := by
  have hx := C.1
  have hb := C.2.1
  unfold X_X8_isLetter_28 at h
  refine lv_iconst (v := (0 : Int32)) hx hb dX8_isLetter_28 (by decide) ?_
  exact t_X8_isLetter_29 C hr hS hW (hl.keep [false] rfl) h
set_option maxRecDepth 20000 in
set_option maxHeartbeats 4000000 in
theorem t_X8_isLetter_12 {p : Program} {l : Launch} {e : Env} {s : State} {m : MethodId} {args : Array Value} {below : List Frame} {meth : Method} {c : Code} {H : Heap} {locs : List Loc} {D : va_G} {tc : Nat → ClassId} {b0 : Nat} {ls : Array Slot} {G : Lay} {Qx : Int32 → Mem → Prop} {l0 : Int32}  {σ : Mem} (C : Cx p s m args meth c cX8_isLetter RX8 1 D tc b0) (hr : meth.sig.returnType = (some FieldType.boolean)) (hS : va_S (AA b0) s.heap H locs) (hW : Wd G D tc b0 σ H) (hl : hL b0 ls 1 [some (.inl l0)]) (h : X_X8_isLetter_12 G Qx l0  σ) : W p l e rm_X8_isLetter s m args below meth c H locs 0 0 (MQ below (va_Qi Qx (fun u t => Pw G D tc b0 u t) (AA b0)) args s 0 0 (AA b0)) (F0 m 12 ls []) := by
  have hx := C.1
  have hb := C.2.1
  unfold X_X8_isLetter_12 at h
  refine x_iload_n C hl dX8_isLetter_12 rfl ?_
  refine lv_bipush (v := (65 : Int32)) hx hb dX8_isLetter_13 (by decide) ?_
  refine lv_icmp_lt hx hb dX8_isLetter_15 (tgt := 28) rfl (fun hc => ?_) (fun hc => ?_)
  · replace h := h.1 hc
    exact t_X8_isLetter_28 C hr hS hW (hl.keep [false] rfl) h
  · replace h := h.2 hc
    refine x_iload_n C hl dX8_isLetter_18 rfl ?_
    refine lv_bipush (v := (90 : Int32)) hx hb dX8_isLetter_19 (by decide) ?_
    refine lv_icmp_gt hx hb dX8_isLetter_21 (tgt := 28) rfl (fun hc => ?_) (fun hc => ?_)
    · replace h := h.1 hc
      exact t_X8_isLetter_28 C hr hS hW (hl.keep [false] rfl) h
    · replace h := h.2 hc
      exact t_X8_isLetter_24 C hr hS hW (hl.keep [false] rfl) h
set_option maxRecDepth 20000 in
set_option maxHeartbeats 4000000 in
theorem t_X8_isLetter_0 {p : Program} {l : Launch} {e : Env} {s : State} {m : MethodId} {args : Array Value} {below : List Frame} {meth : Method} {c : Code} {H : Heap} {locs : List Loc} {D : va_G} {tc : Nat → ClassId} {b0 : Nat} {ls : Array Slot} {G : Lay} {Qx : Int32 → Mem → Prop} {l0 : Int32}  {σ : Mem} (C : Cx p s m args meth c cX8_isLetter RX8 1 D tc b0) (hr : meth.sig.returnType = (some FieldType.boolean)) (hS : va_S (AA b0) s.heap H locs) (hW : Wd G D tc b0 σ H) (hl : hL b0 ls 1 [some (.inl l0)]) (h : X_X8_isLetter_0 G Qx l0  σ) : W p l e rm_X8_isLetter s m args below meth c H locs 0 0 (MQ below (va_Qi Qx (fun u t => Pw G D tc b0 u t) (AA b0)) args s 0 0 (AA b0)) (F0 m 0 ls []) := by
  have hx := C.1
  have hb := C.2.1
  unfold X_X8_isLetter_0 at h
  refine x_iload_n C hl dX8_isLetter_0 rfl ?_
  refine lv_bipush (v := (97 : Int32)) hx hb dX8_isLetter_1 (by decide) ?_
  refine lv_icmp_lt hx hb dX8_isLetter_3 (tgt := 12) rfl (fun hc => ?_) (fun hc => ?_)
  · replace h := h.1 hc
    exact t_X8_isLetter_12 C hr hS hW (hl.keep [true] rfl) h
  · replace h := h.2 hc
    refine x_iload_n C hl dX8_isLetter_6 rfl ?_
    refine lv_bipush (v := (122 : Int32)) hx hb dX8_isLetter_7 (by decide) ?_
    refine lv_icmp_le hx hb dX8_isLetter_9 (tgt := 24) rfl (fun hc => ?_) (fun hc => ?_)
    · replace h := h.1 hc
      exact t_X8_isLetter_24 C hr hS hW (hl.keep [false] rfl) h
    · replace h := h.2 hc
      exact t_X8_isLetter_12 C hr hS hW (hl.keep [true] rfl) h
theorem T_X8_isLetter (l : Launch) {G : Lay} {D : va_G} {tc : Nat → ClassId} {b0 : Nat} (l0 : Int32) (σ : Mem) (Qx : Int32 → Mem → Prop) (h : X_X8_isLetter G Qx l0 σ) : MI l yX8_isLetter cX8_isLetter 1 ((some FieldType.boolean)) rm_X8_isLetter G D tc b0 [.int l0] σ Qx :=
  x_entry (y := yX8_isLetter) [.inl l0] 0 (by decide) (Nat.le_of_ble_eq_true rfl) (fun p e s m args below meth c ls C hr hW hl => t_X8_isLetter_0 C hr va_S.rf hW (hl.keep [true] rfl) h)
/-! X8_isDigit -/
set_option maxRecDepth 20000 in
set_option maxHeartbeats 4000000 in
theorem t_X8_isDigit_17 {p : Program} {l : Launch} {e : Env} {s : State} {m : MethodId} {args : Array Value} {below : List Frame} {meth : Method} {c : Code} {H : Heap} {locs : List Loc} {D : va_G} {tc : Nat → ClassId} {b0 : Nat} {ls : Array Slot} {G : Lay} {Qx : Int32 → Mem → Prop}  {k0 : Int32} {σ : Mem} (C : Cx p s m args meth c cX8_isDigit RX8 1 D tc b0) (hr : meth.sig.returnType = (some FieldType.boolean)) (hS : va_S (AA b0) s.heap H locs) (hW : Wd G D tc b0 σ H) (hl : hL b0 ls 1 [none]) (h : X_X8_isDigit_17 G Qx  k0 σ) : W p l e rm_X8_isDigit s m args below meth c H locs 0 0 (MQ below (va_Qi Qx (fun u t => Pw G D tc b0 u t) (AA b0)) args s 0 0 (AA b0)) (F0 m 17 ls [.int k0]) := by
  have hx := C.1
  have hb := C.2.1
  unfold X_X8_isDigit_17 at h
  exact r_z C hr hW hS h.1 h.2 dX8_isDigit_17
set_option maxRecDepth 20000 in
set_option maxHeartbeats 4000000 in
theorem t_X8_isDigit_16 {p : Program} {l : Launch} {e : Env} {s : State} {m : MethodId} {args : Array Value} {below : List Frame} {meth : Method} {c : Code} {H : Heap} {locs : List Loc} {D : va_G} {tc : Nat → ClassId} {b0 : Nat} {ls : Array Slot} {G : Lay} {Qx : Int32 → Mem → Prop}   {σ : Mem} (C : Cx p s m args meth c cX8_isDigit RX8 1 D tc b0) (hr : meth.sig.returnType = (some FieldType.boolean)) (hS : va_S (AA b0) s.heap H locs) (hW : Wd G D tc b0 σ H) (hl : hL b0 ls 1 [none]) (h : X_X8_isDigit_16 G Qx   σ) : W p l e rm_X8_isDigit s m args below meth c H locs 0 0 (MQ below (va_Qi Qx (fun u t => Pw G D tc b0 u t) (AA b0)) args s 0 0 (AA b0)) (F0 m 16 ls []) := by
  have hx := C.1
  have hb := C.2.1
  unfold X_X8_isDigit_16 at h
  refine lv_iconst (v := (0 : Int32)) hx hb dX8_isDigit_16 (by decide) ?_
  exact t_X8_isDigit_17 C hr hS hW (hl.keep [false] rfl) h
set_option maxRecDepth 20000 in
set_option maxHeartbeats 4000000 in
theorem t_X8_isDigit_0 {p : Program} {l : Launch} {e : Env} {s : State} {m : MethodId} {args : Array Value} {below : List Frame} {meth : Method} {c : Code} {H : Heap} {locs : List Loc} {D : va_G} {tc : Nat → ClassId} {b0 : Nat} {ls : Array Slot} {G : Lay} {Qx : Int32 → Mem → Prop} {l0 : Int32}  {σ : Mem} (C : Cx p s m args meth c cX8_isDigit RX8 1 D tc b0) (hr : meth.sig.returnType = (some FieldType.boolean)) (hS : va_S (AA b0) s.heap H locs) (hW : Wd G D tc b0 σ H) (hl : hL b0 ls 1 [some (.inl l0)]) (h : X_X8_isDigit_0 G Qx l0  σ) : W p l e rm_X8_isDigit s m args below meth c H locs 0 0 (MQ below (va_Qi Qx (fun u t => Pw G D tc b0 u t) (AA b0)) args s 0 0 (AA b0)) (F0 m 0 ls []) := by
  have hx := C.1
  have hb := C.2.1
  unfold X_X8_isDigit_0 at h
  refine x_iload_n C hl dX8_isDigit_0 rfl ?_
  refine lv_bipush (v := (48 : Int32)) hx hb dX8_isDigit_1 (by decide) ?_
  refine lv_icmp_lt hx hb dX8_isDigit_3 (tgt := 16) rfl (fun hc => ?_) (fun hc => ?_)
  · replace h := h.1 hc
    exact t_X8_isDigit_16 C hr hS hW (hl.keep [false] rfl) h
  · replace h := h.2 hc
    refine x_iload_n C hl dX8_isDigit_6 rfl ?_
    refine lv_bipush (v := (57 : Int32)) hx hb dX8_isDigit_7 (by decide) ?_
    refine lv_icmp_gt hx hb dX8_isDigit_9 (tgt := 16) rfl (fun hc => ?_) (fun hc => ?_)
    · replace h := h.1 hc
      exact t_X8_isDigit_16 C hr hS hW (hl.keep [false] rfl) h
    · replace h := h.2 hc
      refine lv_iconst (v := (1 : Int32)) hx hb dX8_isDigit_12 (by decide) ?_
      refine lv_goto hx hb dX8_isDigit_13 (tgt := 17) rfl ?_
      exact t_X8_isDigit_17 C hr hS hW (hl.keep [false] rfl) h
theorem T_X8_isDigit (l : Launch) {G : Lay} {D : va_G} {tc : Nat → ClassId} {b0 : Nat} (l0 : Int32) (σ : Mem) (Qx : Int32 → Mem → Prop) (h : X_X8_isDigit G Qx l0 σ) : MI l yX8_isDigit cX8_isDigit 1 ((some FieldType.boolean)) rm_X8_isDigit G D tc b0 [.int l0] σ Qx :=
  x_entry (y := yX8_isDigit) [.inl l0] 0 (by decide) (Nat.le_of_ble_eq_true rfl) (fun p e s m args below meth c ls C hr hW hl => t_X8_isDigit_0 C hr va_S.rf hW (hl.keep [true] rfl) h)
/-! X8_endOfToken -/
set_option maxRecDepth 20000 in
set_option maxHeartbeats 4000000 in
theorem t_X8_endOfToken_36 {p : Program} {l : Launch} {e : Env} {s : State} {m : MethodId} {args : Array Value} {below : List Frame} {meth : Method} {c : Code} {H : Heap} {locs : List Loc} {D : va_G} {tc : Nat → ClassId} {b0 : Nat} {ls : Array Slot} {G : Lay} {Qx : Int32 → Mem → Prop} {l0 : Nat} {l2 : Int32} {l3 : Int32}  {K13 : Int32 × Mem → Prop} {σ : Mem} (C : Cx p s m args meth c cX8_endOfToken RX8 4 D tc b0) (hr : meth.sig.returnType = (some FieldType.int)) (hK13 : ∀ (x3 : Int32) (σ : Mem) (H : Heap) (locs : List Loc) (ls : Array Slot), va_S (AA b0) s.heap H locs → Wd G D tc b0 σ H → hL b0 ls 4 [some (.inr (.inr l0)), none, some (.inl l2), some (.inl x3)] → K13 (x3, σ) → W p l e rm_X8_endOfToken s m args below meth c H locs 0 0 (MQ below (va_Qi Qx (fun u t => Pw G D tc b0 u t) (AA b0)) args s 0 0 (AA b0)) (F0 m 13 ls [])) (hS : va_S (AA b0) s.heap H locs) (hW : Wd G D tc b0 σ H) (hl : hL b0 ls 4 [some (.inr (.inr l0)), none, some (.inl l2), some (.inl l3)]) (h : X_X8_endOfToken_36 G Qx K13 l0 l2 l3  σ) : W p l e rm_X8_endOfToken s m args below meth c H locs 0 0 (MQ below (va_Qi Qx (fun u t => Pw G D tc b0 u t) (AA b0)) args s 0 0 (AA b0)) (F0 m 36 ls []) := by
  have hx := C.1
  have hb := C.2.1
  unfold X_X8_endOfToken_36 at h
  refine x_iinc C hl dX8_endOfToken_36 rfl (v := (1 : Int32)) (by decide) (by decide) rfl (fun ls hl => ?_)
  refine lv_goto hx hb dX8_endOfToken_39 (tgt := 13) rfl ?_
  exact hK13 _ _ _ _ _ hS hW (hl.keep [true, false, true, true] rfl) h
set_option maxRecDepth 20000 in
set_option maxHeartbeats 4000000 in
theorem t_X8_endOfToken_71 {p : Program} {l : Launch} {e : Env} {s : State} {m : MethodId} {args : Array Value} {below : List Frame} {meth : Method} {c : Code} {H : Heap} {locs : List Loc} {D : va_G} {tc : Nat → ClassId} {b0 : Nat} {ls : Array Slot} {G : Lay} {Qx : Int32 → Mem → Prop} {l3 : Int32}  {σ : Mem} (C : Cx p s m args meth c cX8_endOfToken RX8 4 D tc b0) (hr : meth.sig.returnType = (some FieldType.int)) (hS : va_S (AA b0) s.heap H locs) (hW : Wd G D tc b0 σ H) (hl : hL b0 ls 4 [none, none, none, some (.inl l3)]) (h : X_X8_endOfToken_71 G Qx l3  σ) : W p l e rm_X8_endOfToken s m args below meth c H locs 0 0 (MQ below (va_Qi Qx (fun u t => Pw G D tc b0 u t) (AA b0)) args s 0 0 (AA b0)) (F0 m 71 ls []) := by
  have hx := C.1
  have hb := C.2.1
  unfold X_X8_endOfToken_71 at h
  refine x_iload_n C hl dX8_endOfToken_71 rfl ?_
  exact r_i C hr hW hS h dX8_endOfToken_72
set_option maxRecDepth 20000 in
set_option maxHeartbeats 4000000 in
theorem t_X8_endOfToken_13_n {p : Program} {l : Launch} {e : Env} {s : State} {m : MethodId} {args : Array Value} {below : List Frame} {meth : Method} {c : Code} {D : va_G} {tc : Nat → ClassId} {b0 : Nat} {G : Lay} {Qx : Int32 → Mem → Prop} {l0 : Nat} {l2 : Int32} (C : Cx p s m args meth c cX8_endOfToken RX8 4 D tc b0) (hr : meth.sig.returnType = (some FieldType.int)) (n : Nat) : ∀ (l3 : Int32) (σ : Mem) (H : Heap) (locs : List Loc) (ls : Array Slot), va_S (AA b0) s.heap H locs → Wd G D tc b0 σ H → hL b0 ls 4 [some (.inr (.inr l0)), none, some (.inl l2), some (.inl l3)] → Lp (X_X8_endOfToken_13_s G Qx l0 l2) n (l3, σ) → W p l e rm_X8_endOfToken s m args below meth c H locs 0 0 (MQ below (va_Qi Qx (fun u t => Pw G D tc b0 u t) (AA b0)) args s 0 0 (AA b0)) (F0 m 13 ls []) := by
  have hx := C.1
  have hb := C.2.1
  induction n with
  | zero => intro l3 σ H locs ls hS hW hl h; exact False.elim h
  | succ n hK13 =>
    intro l3 σ H locs ls hS hW hl h
    replace h : X_X8_endOfToken_13_s G Qx l0 l2 (Lp (X_X8_endOfToken_13_s G Qx l0 l2) n) (l3, σ) := h
    unfold X_X8_endOfToken_13_s at h
    refine x_iload_n C hl dX8_endOfToken_13 rfl ?_
    refine x_iload_n C hl dX8_endOfToken_14 rfl ?_
    refine lv_icmp_ge hx hb dX8_endOfToken_15 (tgt := 71) rfl (fun hc => ?_) (fun hc => ?_)
    · replace h := h.1 hc
      exact t_X8_endOfToken_71 C hr hS hW (hl.keep [false, false, false, true] rfl) h
    · replace h := h.2 hc
      refine x_aload_n C hl dX8_endOfToken_18 rfl ?_
      refine x_iload_n C hl dX8_endOfToken_19 rfl ?_
      have t1 := h.1
      replace h := h.2
      have v2 := h.1
      replace h := h.2
      refine x_bald C hW t1 v2 dX8_endOfToken_20 ?_
      refine y_i (x_runS (As := [.int (mI σ l0 l3.toNatClampNeg)]) C hW hS (T_X8_isLetter l (mI σ l0 l3.toNatClampNeg) σ _ h) (CS.of yv_X8_isLetter ml_X8_47) ⟨rfl, rfl, ⟨by decide, by decide⟩, by decide, by decide⟩ rfl hl.1 rfl (by decide) dX8_endOfToken_21) hS (fun w4 s3 H locs h hW hS => ?_)
      refine lv_if_ne hx hb dX8_endOfToken_24 (tgt := 36) rfl (fun hc => ?_) (fun hc => ?_)
      · replace h := h.2 hc
        exact t_X8_endOfToken_36 C hr hK13 hS hW (hl.keep [true, false, true, true] rfl) h
      · replace h := h.1 hc
        refine x_aload_n C hl dX8_endOfToken_27 rfl ?_
        refine x_iload_n C hl dX8_endOfToken_28 rfl ?_
        refine x_bald C hW t1 v2 dX8_endOfToken_29 ?_
        refine y_i (x_runS (As := [.int (mI s3 l0 l3.toNatClampNeg)]) C hW hS (T_X8_isDigit l (mI s3 l0 l3.toNatClampNeg) s3 _ h) (CS.of yv_X8_isDigit ml_X8_53) ⟨rfl, rfl, ⟨by decide, by decide⟩, by decide, by decide⟩ rfl hl.1 rfl (by decide) dX8_endOfToken_30) hS (fun w6 s5 H locs h hW hS => ?_)
        refine lv_if_eq hx hb dX8_endOfToken_33 (tgt := 71) rfl (fun hc => ?_) (fun hc => ?_)
        · replace h := h.1 hc
          exact t_X8_endOfToken_71 C hr hS hW (hl.keep [false, false, false, true] rfl) h
        · replace h := h.2 hc
          exact t_X8_endOfToken_36 C hr hK13 hS hW (hl.keep [true, false, true, true] rfl) h
set_option maxRecDepth 20000 in
set_option maxHeartbeats 4000000 in
theorem t_X8_endOfToken_13 {p : Program} {l : Launch} {e : Env} {s : State} {m : MethodId} {args : Array Value} {below : List Frame} {meth : Method} {c : Code} {H : Heap} {locs : List Loc} {D : va_G} {tc : Nat → ClassId} {b0 : Nat} {ls : Array Slot} {G : Lay} {Qx : Int32 → Mem → Prop} {l0 : Nat} {l2 : Int32} {l3 : Int32}  {σ : Mem} (C : Cx p s m args meth c cX8_endOfToken RX8 4 D tc b0) (hr : meth.sig.returnType = (some FieldType.int)) (hS : va_S (AA b0) s.heap H locs) (hW : Wd G D tc b0 σ H) (hl : hL b0 ls 4 [some (.inr (.inr l0)), none, some (.inl l2), some (.inl l3)]) (h : X_X8_endOfToken_13 G Qx l0 l2 l3 σ) : W p l e rm_X8_endOfToken s m args below meth c H locs 0 0 (MQ below (va_Qi Qx (fun u t => Pw G D tc b0 u t) (AA b0)) args s 0 0 (AA b0)) (F0 m 13 ls []) := by
  obtain ⟨n, h⟩ := h
  exact t_X8_endOfToken_13_n C hr n l3 σ H locs ls hS hW hl h
set_option maxRecDepth 20000 in
set_option maxHeartbeats 4000000 in
theorem t_X8_endOfToken_51_n {p : Program} {l : Launch} {e : Env} {s : State} {m : MethodId} {args : Array Value} {below : List Frame} {meth : Method} {c : Code} {D : va_G} {tc : Nat → ClassId} {b0 : Nat} {G : Lay} {Qx : Int32 → Mem → Prop} {l0 : Nat} {l2 : Int32} (C : Cx p s m args meth c cX8_endOfToken RX8 4 D tc b0) (hr : meth.sig.returnType = (some FieldType.int)) (n : Nat) : ∀ (l3 : Int32) (σ : Mem) (H : Heap) (locs : List Loc) (ls : Array Slot), va_S (AA b0) s.heap H locs → Wd G D tc b0 σ H → hL b0 ls 4 [some (.inr (.inr l0)), none, some (.inl l2), some (.inl l3)] → Lp (X_X8_endOfToken_51_s G Qx l0 l2) n (l3, σ) → W p l e rm_X8_endOfToken s m args below meth c H locs 0 0 (MQ below (va_Qi Qx (fun u t => Pw G D tc b0 u t) (AA b0)) args s 0 0 (AA b0)) (F0 m 51 ls []) := by
  have hx := C.1
  have hb := C.2.1
  induction n with
  | zero => intro l3 σ H locs ls hS hW hl h; exact False.elim h
  | succ n hK51 =>
    intro l3 σ H locs ls hS hW hl h
    replace h : X_X8_endOfToken_51_s G Qx l0 l2 (Lp (X_X8_endOfToken_51_s G Qx l0 l2) n) (l3, σ) := h
    unfold X_X8_endOfToken_51_s at h
    refine x_iload_n C hl dX8_endOfToken_51 rfl ?_
    refine x_iload_n C hl dX8_endOfToken_52 rfl ?_
    refine lv_icmp_ge hx hb dX8_endOfToken_53 (tgt := 71) rfl (fun hc => ?_) (fun hc => ?_)
    · replace h := h.1 hc
      exact t_X8_endOfToken_71 C hr hS hW (hl.keep [false, false, false, true] rfl) h
    · replace h := h.2 hc
      refine x_aload_n C hl dX8_endOfToken_56 rfl ?_
      refine x_iload_n C hl dX8_endOfToken_57 rfl ?_
      have t1 := h.1
      replace h := h.2
      have v2 := h.1
      replace h := h.2
      refine x_bald C hW t1 v2 dX8_endOfToken_58 ?_
      refine y_i (x_runS (As := [.int (mI σ l0 l3.toNatClampNeg)]) C hW hS (T_X8_isDigit l (mI σ l0 l3.toNatClampNeg) σ _ h) (CS.of yv_X8_isDigit ml_X8_53) ⟨rfl, rfl, ⟨by decide, by decide⟩, by decide, by decide⟩ rfl hl.1 rfl (by decide) dX8_endOfToken_59) hS (fun w4 s3 H locs h hW hS => ?_)
      refine lv_if_eq hx hb dX8_endOfToken_62 (tgt := 71) rfl (fun hc => ?_) (fun hc => ?_)
      · replace h := h.1 hc
        exact t_X8_endOfToken_71 C hr hS hW (hl.keep [false, false, false, true] rfl) h
      · replace h := h.2 hc
        refine x_iinc C hl dX8_endOfToken_65 rfl (v := (1 : Int32)) (by decide) (by decide) rfl (fun ls hl => ?_)
        refine lv_goto hx hb dX8_endOfToken_68 (tgt := 51) rfl ?_
        exact hK51 _ _ _ _ _ hS hW (hl.keep [true, false, true, true] rfl) h
set_option maxRecDepth 20000 in
set_option maxHeartbeats 4000000 in
theorem t_X8_endOfToken_51 {p : Program} {l : Launch} {e : Env} {s : State} {m : MethodId} {args : Array Value} {below : List Frame} {meth : Method} {c : Code} {H : Heap} {locs : List Loc} {D : va_G} {tc : Nat → ClassId} {b0 : Nat} {ls : Array Slot} {G : Lay} {Qx : Int32 → Mem → Prop} {l0 : Nat} {l2 : Int32} {l3 : Int32}  {σ : Mem} (C : Cx p s m args meth c cX8_endOfToken RX8 4 D tc b0) (hr : meth.sig.returnType = (some FieldType.int)) (hS : va_S (AA b0) s.heap H locs) (hW : Wd G D tc b0 σ H) (hl : hL b0 ls 4 [some (.inr (.inr l0)), none, some (.inl l2), some (.inl l3)]) (h : X_X8_endOfToken_51 G Qx l0 l2 l3 σ) : W p l e rm_X8_endOfToken s m args below meth c H locs 0 0 (MQ below (va_Qi Qx (fun u t => Pw G D tc b0 u t) (AA b0)) args s 0 0 (AA b0)) (F0 m 51 ls []) := by
  obtain ⟨n, h⟩ := h
  exact t_X8_endOfToken_51_n C hr n l3 σ H locs ls hS hW hl h
set_option maxRecDepth 20000 in
set_option maxHeartbeats 4000000 in
theorem t_X8_endOfToken_0 {p : Program} {l : Launch} {e : Env} {s : State} {m : MethodId} {args : Array Value} {below : List Frame} {meth : Method} {c : Code} {H : Heap} {locs : List Loc} {D : va_G} {tc : Nat → ClassId} {b0 : Nat} {ls : Array Slot} {G : Lay} {Qx : Int32 → Mem → Prop} {l0 : Nat} {l1 : Int32} {l2 : Int32}  {σ : Mem} (C : Cx p s m args meth c cX8_endOfToken RX8 4 D tc b0) (hr : meth.sig.returnType = (some FieldType.int)) (hS : va_S (AA b0) s.heap H locs) (hW : Wd G D tc b0 σ H) (hl : hL b0 ls 4 [some (.inr (.inr l0)), some (.inl l1), some (.inl l2), none]) (h : X_X8_endOfToken_0 G Qx l0 l1 l2  σ) : W p l e rm_X8_endOfToken s m args below meth c H locs 0 0 (MQ below (va_Qi Qx (fun u t => Pw G D tc b0 u t) (AA b0)) args s 0 0 (AA b0)) (F0 m 0 ls []) := by
  have hx := C.1
  have hb := C.2.1
  unfold X_X8_endOfToken_0 at h
  refine x_iload_n C hl dX8_endOfToken_0 rfl ?_
  refine lv_iconst (v := (1 : Int32)) hx hb dX8_endOfToken_1 (by decide) ?_
  refine lv_iadd hx hb dX8_endOfToken_2 ?_
  refine x_istore_n C hl dX8_endOfToken_3 (by decide) rfl (fun ls hl => ?_)
  refine x_aload_n C hl dX8_endOfToken_4 rfl ?_
  refine x_iload_n C hl dX8_endOfToken_5 rfl ?_
  have t1 := h.1
  replace h := h.2
  have v2 := h.1
  replace h := h.2
  refine x_bald C hW t1 v2 dX8_endOfToken_6 ?_
  refine y_i (x_runS (As := [.int (mI σ l0 l1.toNatClampNeg)]) C hW hS (T_X8_isLetter l (mI σ l0 l1.toNatClampNeg) σ _ h) (CS.of yv_X8_isLetter ml_X8_47) ⟨rfl, rfl, ⟨by decide, by decide⟩, by decide, by decide⟩ rfl hl.1 rfl (by decide) dX8_endOfToken_7) hS (fun w4 s3 H locs h hW hS => ?_)
  refine lv_if_eq hx hb dX8_endOfToken_10 (tgt := 42) rfl (fun hc => ?_) (fun hc => ?_)
  · replace h := h.1 hc
    refine x_aload_n C hl dX8_endOfToken_42 rfl ?_
    refine x_iload_n C hl dX8_endOfToken_43 rfl ?_
    refine x_bald C hW t1 v2 dX8_endOfToken_44 ?_
    refine y_i (x_runS (As := [.int (mI s3 l0 l1.toNatClampNeg)]) C hW hS (T_X8_isDigit l (mI s3 l0 l1.toNatClampNeg) s3 _ h) (CS.of yv_X8_isDigit ml_X8_53) ⟨rfl, rfl, ⟨by decide, by decide⟩, by decide, by decide⟩ rfl hl.1 rfl (by decide) dX8_endOfToken_45) hS (fun w6 s5 H locs h hW hS => ?_)
    refine lv_if_eq hx hb dX8_endOfToken_48 (tgt := 71) rfl (fun hc => ?_) (fun hc => ?_)
    · replace h := h.1 hc
      exact t_X8_endOfToken_71 C hr hS hW (hl.keep [false, false, false, true] rfl) h
    · replace h := h.2 hc
      exact t_X8_endOfToken_51 C hr hS hW (hl.keep [true, false, true, true] rfl) h
  · replace h := h.2 hc
    exact t_X8_endOfToken_13 C hr hS hW (hl.keep [true, false, true, true] rfl) h
theorem T_X8_endOfToken (l : Launch) {G : Lay} {D : va_G} {tc : Nat → ClassId} {b0 : Nat} (l0 : Nat) (l1 : Int32) (l2 : Int32) (σ : Mem) (Qx : Int32 → Mem → Prop) (h : X_X8_endOfToken G Qx l0 l1 l2 σ) : MI l yX8_endOfToken cX8_endOfToken 4 ((some FieldType.int)) rm_X8_endOfToken G D tc b0 [rv b0 l0, .int l1, .int l2] σ Qx :=
  x_entry (y := yX8_endOfToken) [.inr (.inr l0), .inl l1, .inl l2] 1 (by decide) (Nat.le_of_ble_eq_true rfl) (fun p e s m args below meth c ls C hr hW hl => t_X8_endOfToken_0 C hr va_S.rf hW (hl.keep [true, true, true, false] rfl) h)
/-! X8_keepNumber -/
set_option maxRecDepth 20000 in
set_option maxHeartbeats 4000000 in
theorem t_X8_keepNumber_25_n {p : Program} {l : Launch} {e : Env} {s : State} {m : MethodId} {args : Array Value} {below : List Frame} {meth : Method} {c : Code} {D : va_G} {tc : Nat → ClassId} {b0 : Nat} {G : Lay} {Qx : Mem → Prop} {l0 : Nat} {l1 : Nat} {l3 : Int32} (C : Cx p s m args meth c cX8_keepNumber RX8 7 D tc b0) (hr : meth.sig.returnType = (none : Option FieldType)) (n : Nat) : ∀ (l4 : Int64) (l6 : Int32) (σ : Mem) (H : Heap) (locs : List Loc) (ls : Array Slot), va_S (AA b0) s.heap H locs → Wd G D tc b0 σ H → hL b0 ls 7 [some (.inr (.inr l0)), some (.inr (.inr l1)), none, some (.inl l3), some (.inr (.inl l4)), none, some (.inl l6)] → Lp (X_X8_keepNumber_25_s G Qx l0 l1 l3) n (l4, l6, σ) → W p l e rm_X8_keepNumber s m args below meth c H locs 0 0 (MQ below (va_Qv Qx (fun u t => Pw G D tc b0 u t) (AA b0)) args s 0 0 (AA b0)) (F0 m 25 ls []) := by
  have hx := C.1
  have hb := C.2.1
  induction n with
  | zero => intro l4 l6 σ H locs ls hS hW hl h; exact False.elim h
  | succ n hK25 =>
    intro l4 l6 σ H locs ls hS hW hl h
    replace h : X_X8_keepNumber_25_s G Qx l0 l1 l3 (Lp (X_X8_keepNumber_25_s G Qx l0 l1 l3) n) (l4, l6, σ) := h
    unfold X_X8_keepNumber_25_s at h
    refine x_iload C hl dX8_keepNumber_25 rfl ?_
    refine x_iload_n C hl dX8_keepNumber_27 rfl ?_
    refine lv_icmp_ge hx hb dX8_keepNumber_28 (tgt := 54) rfl (fun hc => ?_) (fun hc => ?_)
    · replace h := h.1 hc
      refine x_aload_n C hl dX8_keepNumber_54 rfl ?_
      have t1 := h.1
      replace h := h.2
      refine x_get C hW (t := 8) (k := 2) t1 kl_8 (by decide) fl_X8_18 (v := rv b0 (mR σ l0 2)) rfl dX8_keepNumber_55 ?_
      refine x_aload_n C hl dX8_keepNumber_58 rfl ?_
      refine x_get C hW (t := 8) (k := 3) t1 kl_8 (by decide) fl_X8_32 (v := .int (mI σ l0 3)) rfl dX8_keepNumber_59 ?_
      refine x_lload C hl dX8_keepNumber_62 rfl ?_
      have t2 := h.1
      replace h := h.2
      have v3 := h.1
      replace h := h.2
      refine x_last C hW hS t2 v3 dX8_keepNumber_64 (fun H locs hW hS => ?_)
      obtain ⟨s4, e_s4⟩ : ∃ z : Mem, z = (sJ σ (mR σ l0 2) (mI σ l0 3).toNatClampNeg l4) := ⟨_, rfl⟩
      replace h := h s4 e_s4
      replace hW : Wd G D tc b0 s4 H := by rw [e_s4]; exact hW
      refine x_aload_n C hl dX8_keepNumber_65 rfl ?_
      refine x_get C hW (t := 8) (k := 0) t1 kl_8 (by decide) fl_X8_9 (v := rv b0 (mR s4 l0 0)) rfl dX8_keepNumber_66 ?_
      refine x_aload_n C hl dX8_keepNumber_69 rfl ?_
      refine x_get C hW (t := 8) (k := 3) t1 kl_8 (by decide) fl_X8_32 (v := .int (mI s4 l0 3)) rfl dX8_keepNumber_70 ?_
      refine lv_iconst (v := (4 : Int32)) hx hb dX8_keepNumber_73 (by decide) ?_
      have t5 := h.1
      replace h := h.2
      have v6 := h.1
      replace h := h.2
      refine x_iast C hW hS t5 v6 dX8_keepNumber_74 (fun H locs hW hS => ?_)
      obtain ⟨s7, e_s7⟩ : ∃ z : Mem, z = (sI s4 (mR s4 l0 0) (mI s4 l0 3).toNatClampNeg (4 : Int32)) := ⟨_, rfl⟩
      replace h := h s7 e_s7
      replace hW : Wd G D tc b0 s7 H := by rw [e_s7]; exact hW
      exact r_v C hr hW hS h dX8_keepNumber_75
    · replace h := h.2 hc
      refine x_lload C hl dX8_keepNumber_31 rfl ?_
      refine lv_ldc2 (own := RX8) (v := (10 : Int64)) hx hb C.2.2.2.1 (C.2.2.2.2.1 _ (gc3 93 rfl rfl)) dX8_keepNumber_33 ?_
      refine lv_lmul hx hb dX8_keepNumber_36 ?_
      refine x_aload_n C hl dX8_keepNumber_37 rfl ?_
      refine x_iload C hl dX8_keepNumber_38 rfl ?_
      have t8 := h.1
      replace h := h.2
      have v9 := h.1
      replace h := h.2
      refine x_bald C hW t8 v9 dX8_keepNumber_40 ?_
      refine lv_bipush (v := (48 : Int32)) hx hb dX8_keepNumber_41 (by decide) ?_
      refine lv_isub hx hb dX8_keepNumber_43 ?_
      refine lv_i2l hx hb dX8_keepNumber_44 rfl ?_
      refine lv_ladd hx hb dX8_keepNumber_45 ?_
      refine x_lstore C hl dX8_keepNumber_46 (by decide) rfl (fun ls hl => ?_)
      refine x_iinc C hl dX8_keepNumber_48 rfl (v := (1 : Int32)) (by decide) (by decide) rfl (fun ls hl => ?_)
      refine lv_goto hx hb dX8_keepNumber_51 (tgt := 25) rfl ?_
      exact hK25 _ _ _ _ _ _ hS hW (hl.keep [true, true, false, true, true, false, true] rfl) h
set_option maxRecDepth 20000 in
set_option maxHeartbeats 4000000 in
theorem t_X8_keepNumber_25 {p : Program} {l : Launch} {e : Env} {s : State} {m : MethodId} {args : Array Value} {below : List Frame} {meth : Method} {c : Code} {H : Heap} {locs : List Loc} {D : va_G} {tc : Nat → ClassId} {b0 : Nat} {ls : Array Slot} {G : Lay} {Qx : Mem → Prop} {l0 : Nat} {l1 : Nat} {l3 : Int32} {l4 : Int64} {l6 : Int32}  {σ : Mem} (C : Cx p s m args meth c cX8_keepNumber RX8 7 D tc b0) (hr : meth.sig.returnType = (none : Option FieldType)) (hS : va_S (AA b0) s.heap H locs) (hW : Wd G D tc b0 σ H) (hl : hL b0 ls 7 [some (.inr (.inr l0)), some (.inr (.inr l1)), none, some (.inl l3), some (.inr (.inl l4)), none, some (.inl l6)]) (h : X_X8_keepNumber_25 G Qx l0 l1 l3 l4 l6 σ) : W p l e rm_X8_keepNumber s m args below meth c H locs 0 0 (MQ below (va_Qv Qx (fun u t => Pw G D tc b0 u t) (AA b0)) args s 0 0 (AA b0)) (F0 m 25 ls []) := by
  obtain ⟨n, h⟩ := h
  exact t_X8_keepNumber_25_n C hr n l4 l6 σ H locs ls hS hW hl h
set_option maxRecDepth 20000 in
set_option maxHeartbeats 4000000 in
theorem t_X8_keepNumber_0 {p : Program} {l : Launch} {e : Env} {s : State} {m : MethodId} {args : Array Value} {below : List Frame} {meth : Method} {c : Code} {H : Heap} {locs : List Loc} {D : va_G} {tc : Nat → ClassId} {b0 : Nat} {ls : Array Slot} {G : Lay} {Qx : Mem → Prop} {l0 : Nat} {l1 : Nat} {l2 : Int32} {l3 : Int32}  {σ : Mem} (C : Cx p s m args meth c cX8_keepNumber RX8 7 D tc b0) (hr : meth.sig.returnType = (none : Option FieldType)) (hS : va_S (AA b0) s.heap H locs) (hW : Wd G D tc b0 σ H) (hl : hL b0 ls 7 [some (.inr (.inr l0)), some (.inr (.inr l1)), some (.inl l2), some (.inl l3), none, none, none]) (h : X_X8_keepNumber_0 G Qx l0 l1 l2 l3  σ) : W p l e rm_X8_keepNumber s m args below meth c H locs 0 0 (MQ below (va_Qv Qx (fun u t => Pw G D tc b0 u t) (AA b0)) args s 0 0 (AA b0)) (F0 m 0 ls []) := by
  have hx := C.1
  have hb := C.2.1
  unfold X_X8_keepNumber_0 at h
  refine x_aload_n C hl dX8_keepNumber_0 rfl ?_
  have t1 := h.1
  replace h := h.2
  refine x_get C hW (t := 8) (k := 0) t1 kl_8 (by decide) fl_X8_9 (v := rv b0 (mR σ l0 0)) rfl dX8_keepNumber_1 ?_
  refine x_aload_n C hl dX8_keepNumber_4 rfl ?_
  refine x_get C hW (t := 8) (k := 3) t1 kl_8 (by decide) fl_X8_32 (v := .int (mI σ l0 3)) rfl dX8_keepNumber_5 ?_
  refine lv_iconst (v := (1 : Int32)) hx hb dX8_keepNumber_8 (by decide) ?_
  have t2 := h.1
  replace h := h.2
  have v3 := h.1
  replace h := h.2
  refine x_iast C hW hS t2 v3 dX8_keepNumber_9 (fun H locs hW hS => ?_)
  obtain ⟨s4, e_s4⟩ : ∃ z : Mem, z = (sI σ (mR σ l0 0) (mI σ l0 3).toNatClampNeg (1 : Int32)) := ⟨_, rfl⟩
  replace h := h s4 e_s4
  replace hW : Wd G D tc b0 s4 H := by rw [e_s4]; exact hW
  refine x_iload_n C hl dX8_keepNumber_10 rfl ?_
  refine x_iload_n C hl dX8_keepNumber_11 rfl ?_
  refine lv_isub hx hb dX8_keepNumber_12 ?_
  refine lv_bipush (v := (6 : Int32)) hx hb dX8_keepNumber_13 (by decide) ?_
  refine lv_icmp_le hx hb dX8_keepNumber_15 (tgt := 19) rfl (fun hc => ?_) (fun hc => ?_)
  · replace h := h.1 hc
    refine lv_lconst (v := (0 : Int64)) hx hb dX8_keepNumber_19 (by decide) ?_
    refine x_lstore C hl dX8_keepNumber_20 (by decide) rfl (fun ls hl => ?_)
    refine x_iload_n C hl dX8_keepNumber_22 rfl ?_
    refine x_istore C hl dX8_keepNumber_23 (by decide) rfl (fun ls hl => ?_)
    exact t_X8_keepNumber_25 C hr hS hW (hl.keep [true, true, false, true, true, false, true] rfl) h
  · replace h := h.2 hc
    exact r_v C hr hW hS h dX8_keepNumber_18
theorem T_X8_keepNumber (l : Launch) {G : Lay} {D : va_G} {tc : Nat → ClassId} {b0 : Nat} (l0 : Nat) (l1 : Nat) (l2 : Int32) (l3 : Int32) (σ : Mem) (Qx : Mem → Prop) (h : X_X8_keepNumber G Qx l0 l1 l2 l3 σ) : MV l yX8_keepNumber cX8_keepNumber 7 ((none : Option FieldType)) rm_X8_keepNumber G D tc b0 [rv b0 l0, rv b0 l1, .int l2, .int l3] σ Qx :=
  x_entry (y := yX8_keepNumber) [.inr (.inr l0), .inr (.inr l1), .inl l2, .inl l3] 3 (by decide) (Nat.le_of_ble_eq_true rfl) (fun p e s m args below meth c ls C hr hW hl => t_X8_keepNumber_0 C hr va_S.rf hW (hl.keep [true, true, true, true, false, false, false] rfl) h)
/-! X9_begin -/
set_option maxRecDepth 20000 in
set_option maxHeartbeats 4000000 in
theorem t_X9_begin_0 {p : Program} {l : Launch} {e : Env} {s : State} {m : MethodId} {args : Array Value} {below : List Frame} {meth : Method} {c : Code} {H : Heap} {locs : List Loc} {D : va_G} {tc : Nat → ClassId} {b0 : Nat} {ls : Array Slot} {G : Lay} {Qx : Mem → Prop} {l0 : Nat}  {σ : Mem} (C : Cx p s m args meth c cX9_begin RX9 1 D tc b0) (hr : meth.sig.returnType = (none : Option FieldType)) (hS : va_S (AA b0) s.heap H locs) (hW : Wd G D tc b0 σ H) (hl : hL b0 ls 1 [some (.inr (.inr l0))]) (h : X_X9_begin_0 G Qx l0  σ) : W p l e rm_X9_begin s m args below meth c H locs 0 0 (MQ below (va_Qv Qx (fun u t => Pw G D tc b0 u t) (AA b0)) args s 0 0 (AA b0)) (F0 m 0 ls []) := by
  have hx := C.1
  have hb := C.2.1
  unfold X_X9_begin_0 at h
  refine x_aload_n C hl dX9_begin_0 rfl ?_
  refine lv_iconst (v := (1 : Int32)) hx hb dX9_begin_1 (by decide) ?_
  have t1 := h.1
  replace h := h.2
  have b3 := h.1
  replace h := h.2
  refine x_putI C hW hS (t := 9) (k := 4) t1 kl_9 (by decide) fl_X9_31 rfl rfl (bz_n b3) (bz_f b3) dX9_begin_2 (fun H locs hW hS => ?_)
  obtain ⟨s2, e_s2⟩ : ∃ z : Mem, z = (sI σ l0 4 (1 : Int32)) := ⟨_, rfl⟩
  replace h := h s2 e_s2
  replace hW : Wd G D tc b0 s2 H := by rw [e_s2]; exact hW
  refine x_aload_n C hl dX9_begin_5 rfl ?_
  refine lv_iconst (v := (0 : Int32)) hx hb dX9_begin_6 (by decide) ?_
  refine x_putI C hW hS (t := 9) (k := 5) t1 kl_9 (by decide) fl_X9_35 rfl rfl rfl rfl dX9_begin_7 (fun H locs hW hS => ?_)
  obtain ⟨s4, e_s4⟩ : ∃ z : Mem, z = (sI s2 l0 5 (0 : Int32)) := ⟨_, rfl⟩
  replace h := h s4 e_s4
  replace hW : Wd G D tc b0 s4 H := by rw [e_s4]; exact hW
  refine x_aload_n C hl dX9_begin_10 rfl ?_
  refine lv_iconst (v := (0 : Int32)) hx hb dX9_begin_11 (by decide) ?_
  refine x_putI C hW hS (t := 9) (k := 6) t1 kl_9 (by decide) fl_X9_39 rfl rfl rfl rfl dX9_begin_12 (fun H locs hW hS => ?_)
  obtain ⟨s5, e_s5⟩ : ∃ z : Mem, z = (sI s4 l0 6 (0 : Int32)) := ⟨_, rfl⟩
  replace h := h s5 e_s5
  replace hW : Wd G D tc b0 s5 H := by rw [e_s5]; exact hW
  exact r_v C hr hW hS h dX9_begin_15
theorem T_X9_begin (l : Launch) {G : Lay} {D : va_G} {tc : Nat → ClassId} {b0 : Nat} (l0 : Nat) (σ : Mem) (Qx : Mem → Prop) (h : X_X9_begin G Qx l0 σ) : MV l yX9_begin cX9_begin 1 ((none : Option FieldType)) rm_X9_begin G D tc b0 [rv b0 l0] σ Qx :=
  x_entry (y := yX9_begin) [.inr (.inr l0)] 0 (by decide) (Nat.le_of_ble_eq_true rfl) (fun p e s m args below meth c ls C hr hW hl => t_X9_begin_0 C hr va_S.rf hW (hl.keep [true] rfl) h)
/-! X9_thingAt -/
set_option maxRecDepth 20000 in
set_option maxHeartbeats 4000000 in
theorem t_X9_thingAt_22 {p : Program} {l : Launch} {e : Env} {s : State} {m : MethodId} {args : Array Value} {below : List Frame} {meth : Method} {c : Code} {H : Heap} {locs : List Loc} {D : va_G} {tc : Nat → ClassId} {b0 : Nat} {ls : Array Slot} {G : Lay} {Qx : Nat → Mem → Prop}  {k0 : Nat} {σ : Mem} (C : Cx p s m args meth c cX9_thingAt RX9 2 D tc b0) (hr : meth.sig.returnType = (some (FieldType.object "BeeRegister$Thing"))) (hS : va_S (AA b0) s.heap H locs) (hW : Wd G D tc b0 σ H) (hl : hL b0 ls 2 [none, none]) (h : X_X9_thingAt_22 G Qx  k0 σ) : W p l e rm_X9_thingAt s m args below meth c H locs 0 0 (MQ below (va_Qq (fun o u => ∃ r, o = ro b0 r ∧ Qx r u) (fun u t => Pw G D tc b0 u t) (AA b0)) args s 0 0 (AA b0)) (F0 m 22 ls [rv b0 k0]) := by
  have hx := C.1
  have hb := C.2.1
  unfold X_X9_thingAt_22 at h
  exact r_r C hr hW hS h dX9_thingAt_22
set_option maxRecDepth 20000 in
set_option maxHeartbeats 4000000 in
theorem t_X9_thingAt_12 {p : Program} {l : Launch} {e : Env} {s : State} {m : MethodId} {args : Array Value} {below : List Frame} {meth : Method} {c : Code} {H : Heap} {locs : List Loc} {D : va_G} {tc : Nat → ClassId} {b0 : Nat} {ls : Array Slot} {G : Lay} {Qx : Nat → Mem → Prop}   {σ : Mem} (C : Cx p s m args meth c cX9_thingAt RX9 2 D tc b0) (hr : meth.sig.returnType = (some (FieldType.object "BeeRegister$Thing"))) (hS : va_S (AA b0) s.heap H locs) (hW : Wd G D tc b0 σ H) (hl : hL b0 ls 2 [none, none]) (h : X_X9_thingAt_12 G Qx   σ) : W p l e rm_X9_thingAt s m args below meth c H locs 0 0 (MQ below (va_Qq (fun o u => ∃ r, o = ro b0 r ∧ Qx r u) (fun u t => Pw G D tc b0 u t) (AA b0)) args s 0 0 (AA b0)) (F0 m 12 ls []) := by
  have hx := C.1
  have hb := C.2.1
  unfold X_X9_thingAt_12 at h
  refine x_null C dX9_thingAt_12 ?_
  refine lv_goto hx hb dX9_thingAt_13 (tgt := 22) rfl ?_
  exact t_X9_thingAt_22 C hr hS hW (hl.keep [false, false] rfl) h
set_option maxRecDepth 20000 in
set_option maxHeartbeats 4000000 in
theorem t_X9_thingAt_0 {p : Program} {l : Launch} {e : Env} {s : State} {m : MethodId} {args : Array Value} {below : List Frame} {meth : Method} {c : Code} {H : Heap} {locs : List Loc} {D : va_G} {tc : Nat → ClassId} {b0 : Nat} {ls : Array Slot} {G : Lay} {Qx : Nat → Mem → Prop} {l0 : Nat} {l1 : Int32}  {σ : Mem} (C : Cx p s m args meth c cX9_thingAt RX9 2 D tc b0) (hr : meth.sig.returnType = (some (FieldType.object "BeeRegister$Thing"))) (hS : va_S (AA b0) s.heap H locs) (hW : Wd G D tc b0 σ H) (hl : hL b0 ls 2 [some (.inr (.inr l0)), some (.inl l1)]) (h : X_X9_thingAt_0 G Qx l0 l1  σ) : W p l e rm_X9_thingAt s m args below meth c H locs 0 0 (MQ below (va_Qq (fun o u => ∃ r, o = ro b0 r ∧ Qx r u) (fun u t => Pw G D tc b0 u t) (AA b0)) args s 0 0 (AA b0)) (F0 m 0 ls []) := by
  have hx := C.1
  have hb := C.2.1
  unfold X_X9_thingAt_0 at h
  refine x_iload_n C hl dX9_thingAt_0 rfl ?_
  refine lv_if_lt hx hb dX9_thingAt_1 (tgt := 12) rfl (fun hc => ?_) (fun hc => ?_)
  · replace h := h.1 hc
    exact t_X9_thingAt_12 C hr hS hW (hl.keep [false, false] rfl) h
  · replace h := h.2 hc
    refine x_iload_n C hl dX9_thingAt_4 rfl ?_
    refine x_aload_n C hl dX9_thingAt_5 rfl ?_
    have t1 := h.1
    replace h := h.2
    refine x_get C hW (t := 9) (k := 5) t1 kl_9 (by decide) fl_X9_35 (v := .int (mI σ l0 5)) rfl dX9_thingAt_6 ?_
    refine lv_icmp_lt hx hb dX9_thingAt_9 (tgt := 16) rfl (fun hc => ?_) (fun hc => ?_)
    · replace h := h.1 hc
      refine x_aload_n C hl dX9_thingAt_16 rfl ?_
      refine x_get C hW (t := 9) (k := 1) t1 kl_9 (by decide) fl_X9_11 (v := rv b0 (mR σ l0 1)) rfl dX9_thingAt_17 ?_
      refine x_iload_n C hl dX9_thingAt_20 rfl ?_
      have t2 := h.1
      replace h := h.2
      have v3 := h.1
      replace h := h.2
      refine x_aald C hW (t := 105) (t0 := 6) t2 (by decide) rfl v3 dX9_thingAt_21 ?_
      exact t_X9_thingAt_22 C hr hS hW (hl.keep [false, false] rfl) h
    · replace h := h.2 hc
      exact t_X9_thingAt_12 C hr hS hW (hl.keep [false, false] rfl) h
theorem T_X9_thingAt (l : Launch) {G : Lay} {D : va_G} {tc : Nat → ClassId} {b0 : Nat} (l0 : Nat) (l1 : Int32) (σ : Mem) (Qx : Nat → Mem → Prop) (h : X_X9_thingAt G Qx l0 l1 σ) : MR l yX9_thingAt cX9_thingAt 2 ((some (FieldType.object "BeeRegister$Thing"))) rm_X9_thingAt G D tc b0 [rv b0 l0, .int l1] σ Qx :=
  x_entry (y := yX9_thingAt) [.inr (.inr l0), .inl l1] 0 (by decide) (Nat.le_of_ble_eq_true rfl) (fun p e s m args below meth c ls C hr hW hl => t_X9_thingAt_0 C hr va_S.rf hW (hl.keep [true, true] rfl) h)
/-! X9_thingFor -/
set_option maxRecDepth 20000 in
set_option maxHeartbeats 4000000 in
theorem t_X9_thingFor_43 {p : Program} {l : Launch} {e : Env} {s : State} {m : MethodId} {args : Array Value} {below : List Frame} {meth : Method} {c : Code} {H : Heap} {locs : List Loc} {D : va_G} {tc : Nat → ClassId} {b0 : Nat} {ls : Array Slot} {G : Lay} {Qx : Nat → Mem → Prop} {l0 : Nat} {l1 : Int32} {l2 : Int32} {l3 : Int32}  {K2 : Int32 × Mem → Prop} {σ : Mem} (C : Cx p s m args meth c cX9_thingFor RX9 4 D tc b0) (hr : meth.sig.returnType = (some (FieldType.object "BeeRegister$Thing"))) (hK2 : ∀ (x3 : Int32) (σ : Mem) (H : Heap) (locs : List Loc) (ls : Array Slot), va_S (AA b0) s.heap H locs → Wd G D tc b0 σ H → hL b0 ls 4 [some (.inr (.inr l0)), some (.inl l1), some (.inl l2), some (.inl x3)] → K2 (x3, σ) → W p l e rm_X9_thingFor s m args below meth c H locs 0 0 (MQ below (va_Qq (fun o u => ∃ r, o = ro b0 r ∧ Qx r u) (fun u t => Pw G D tc b0 u t) (AA b0)) args s 0 0 (AA b0)) (F0 m 2 ls [])) (hS : va_S (AA b0) s.heap H locs) (hW : Wd G D tc b0 σ H) (hl : hL b0 ls 4 [some (.inr (.inr l0)), some (.inl l1), some (.inl l2), some (.inl l3)]) (h : X_X9_thingFor_43 G Qx K2 l0 l1 l2 l3  σ) : W p l e rm_X9_thingFor s m args below meth c H locs 0 0 (MQ below (va_Qq (fun o u => ∃ r, o = ro b0 r ∧ Qx r u) (fun u t => Pw G D tc b0 u t) (AA b0)) args s 0 0 (AA b0)) (F0 m 43 ls []) := by
  have hx := C.1
  have hb := C.2.1
  unfold X_X9_thingFor_43 at h
  refine x_iinc C hl dX9_thingFor_43 rfl (v := (1 : Int32)) (by decide) (by decide) rfl (fun ls hl => ?_)
  refine lv_goto hx hb dX9_thingFor_46 (tgt := 2) rfl ?_
  exact hK2 _ _ _ _ _ hS hW (hl.keep [true, true, true, true] rfl) h
set_option maxRecDepth 20000 in
set_option maxHeartbeats 4000000 in
theorem t_X9_thingFor_2_n {p : Program} {l : Launch} {e : Env} {s : State} {m : MethodId} {args : Array Value} {below : List Frame} {meth : Method} {c : Code} {D : va_G} {tc : Nat → ClassId} {b0 : Nat} {G : Lay} {Qx : Nat → Mem → Prop} {l0 : Nat} {l1 : Int32} {l2 : Int32} (C : Cx p s m args meth c cX9_thingFor RX9 4 D tc b0) (hr : meth.sig.returnType = (some (FieldType.object "BeeRegister$Thing"))) (n : Nat) : ∀ (l3 : Int32) (σ : Mem) (H : Heap) (locs : List Loc) (ls : Array Slot), va_S (AA b0) s.heap H locs → Wd G D tc b0 σ H → hL b0 ls 4 [some (.inr (.inr l0)), some (.inl l1), some (.inl l2), some (.inl l3)] → Lp (X_X9_thingFor_2_s G Qx l0 l1 l2) n (l3, σ) → W p l e rm_X9_thingFor s m args below meth c H locs 0 0 (MQ below (va_Qq (fun o u => ∃ r, o = ro b0 r ∧ Qx r u) (fun u t => Pw G D tc b0 u t) (AA b0)) args s 0 0 (AA b0)) (F0 m 2 ls []) := by
  have hx := C.1
  have hb := C.2.1
  induction n with
  | zero => intro l3 σ H locs ls hS hW hl h; exact False.elim h
  | succ n hK2 =>
    intro l3 σ H locs ls hS hW hl h
    replace h : X_X9_thingFor_2_s G Qx l0 l1 l2 (Lp (X_X9_thingFor_2_s G Qx l0 l1 l2) n) (l3, σ) := h
    unfold X_X9_thingFor_2_s at h
    refine x_iload_n C hl dX9_thingFor_2 rfl ?_
    refine x_aload_n C hl dX9_thingFor_3 rfl ?_
    have t1 := h.1
    replace h := h.2
    refine x_get C hW (t := 9) (k := 5) t1 kl_9 (by decide) fl_X9_35 (v := .int (mI σ l0 5)) rfl dX9_thingFor_4 ?_
    refine lv_icmp_ge hx hb dX9_thingFor_7 (tgt := 49) rfl (fun hc => ?_) (fun hc => ?_)
    · replace h := h.1 hc
      refine x_null C dX9_thingFor_49 ?_
      exact r_r C hr hW hS h dX9_thingFor_50
    · replace h := h.2 hc
      refine x_aload_n C hl dX9_thingFor_10 rfl ?_
      refine x_get C hW (t := 9) (k := 1) t1 kl_9 (by decide) fl_X9_11 (v := rv b0 (mR σ l0 1)) rfl dX9_thingFor_11 ?_
      refine x_iload_n C hl dX9_thingFor_14 rfl ?_
      have t2 := h.1
      replace h := h.2
      have v3 := h.1
      replace h := h.2
      refine x_aald C hW (t := 105) (t0 := 6) t2 (by decide) rfl v3 dX9_thingFor_15 ?_
      have t4 := h.1
      replace h := h.2
      refine x_get C hW (t := 7) (k := 3) t4 kl_7 (by decide) fl_X9_42 (v := .int (mI σ (mR σ (mR σ l0 1) l3.toNatClampNeg) 3)) rfl dX9_thingFor_16 ?_
      refine x_iload_n C hl dX9_thingFor_19 rfl ?_
      refine lv_icmp_ne hx hb dX9_thingFor_20 (tgt := 43) rfl (fun hc => ?_) (fun hc => ?_)
      · replace h := h.2 hc
        exact t_X9_thingFor_43 C hr hK2 hS hW (hl.keep [true, true, true, true] rfl) h
      · replace h := h.1 hc
        refine x_aload_n C hl dX9_thingFor_23 rfl ?_
        refine x_get C hW (t := 9) (k := 1) t1 kl_9 (by decide) fl_X9_11 (v := rv b0 (mR σ l0 1)) rfl dX9_thingFor_24 ?_
        refine x_iload_n C hl dX9_thingFor_27 rfl ?_
        refine x_aald C hW (t := 105) (t0 := 6) t2 (by decide) rfl v3 dX9_thingFor_28 ?_
        refine x_get C hW (t := 7) (k := 2) t4 kl_7 (by decide) fl_X9_45 (v := .int (mI σ (mR σ (mR σ l0 1) l3.toNatClampNeg) 2)) rfl dX9_thingFor_29 ?_
        refine x_iload_n C hl dX9_thingFor_32 rfl ?_
        refine lv_icmp_ne hx hb dX9_thingFor_33 (tgt := 43) rfl (fun hc => ?_) (fun hc => ?_)
        · replace h := h.2 hc
          exact t_X9_thingFor_43 C hr hK2 hS hW (hl.keep [true, true, true, true] rfl) h
        · replace h := h.1 hc
          refine x_aload_n C hl dX9_thingFor_36 rfl ?_
          refine x_get C hW (t := 9) (k := 1) t1 kl_9 (by decide) fl_X9_11 (v := rv b0 (mR σ l0 1)) rfl dX9_thingFor_37 ?_
          refine x_iload_n C hl dX9_thingFor_40 rfl ?_
          refine x_aald C hW (t := 105) (t0 := 6) t2 (by decide) rfl v3 dX9_thingFor_41 ?_
          exact r_r C hr hW hS h dX9_thingFor_42
set_option maxRecDepth 20000 in
set_option maxHeartbeats 4000000 in
theorem t_X9_thingFor_2 {p : Program} {l : Launch} {e : Env} {s : State} {m : MethodId} {args : Array Value} {below : List Frame} {meth : Method} {c : Code} {H : Heap} {locs : List Loc} {D : va_G} {tc : Nat → ClassId} {b0 : Nat} {ls : Array Slot} {G : Lay} {Qx : Nat → Mem → Prop} {l0 : Nat} {l1 : Int32} {l2 : Int32} {l3 : Int32}  {σ : Mem} (C : Cx p s m args meth c cX9_thingFor RX9 4 D tc b0) (hr : meth.sig.returnType = (some (FieldType.object "BeeRegister$Thing"))) (hS : va_S (AA b0) s.heap H locs) (hW : Wd G D tc b0 σ H) (hl : hL b0 ls 4 [some (.inr (.inr l0)), some (.inl l1), some (.inl l2), some (.inl l3)]) (h : X_X9_thingFor_2 G Qx l0 l1 l2 l3 σ) : W p l e rm_X9_thingFor s m args below meth c H locs 0 0 (MQ below (va_Qq (fun o u => ∃ r, o = ro b0 r ∧ Qx r u) (fun u t => Pw G D tc b0 u t) (AA b0)) args s 0 0 (AA b0)) (F0 m 2 ls []) := by
  obtain ⟨n, h⟩ := h
  exact t_X9_thingFor_2_n C hr n l3 σ H locs ls hS hW hl h
set_option maxRecDepth 20000 in
set_option maxHeartbeats 4000000 in
theorem t_X9_thingFor_0 {p : Program} {l : Launch} {e : Env} {s : State} {m : MethodId} {args : Array Value} {below : List Frame} {meth : Method} {c : Code} {H : Heap} {locs : List Loc} {D : va_G} {tc : Nat → ClassId} {b0 : Nat} {ls : Array Slot} {G : Lay} {Qx : Nat → Mem → Prop} {l0 : Nat} {l1 : Int32} {l2 : Int32}  {σ : Mem} (C : Cx p s m args meth c cX9_thingFor RX9 4 D tc b0) (hr : meth.sig.returnType = (some (FieldType.object "BeeRegister$Thing"))) (hS : va_S (AA b0) s.heap H locs) (hW : Wd G D tc b0 σ H) (hl : hL b0 ls 4 [some (.inr (.inr l0)), some (.inl l1), some (.inl l2), none]) (h : X_X9_thingFor_0 G Qx l0 l1 l2  σ) : W p l e rm_X9_thingFor s m args below meth c H locs 0 0 (MQ below (va_Qq (fun o u => ∃ r, o = ro b0 r ∧ Qx r u) (fun u t => Pw G D tc b0 u t) (AA b0)) args s 0 0 (AA b0)) (F0 m 0 ls []) := by
  have hx := C.1
  have hb := C.2.1
  unfold X_X9_thingFor_0 at h
  refine lv_iconst (v := (0 : Int32)) hx hb dX9_thingFor_0 (by decide) ?_
  refine x_istore_n C hl dX9_thingFor_1 (by decide) rfl (fun ls hl => ?_)
  exact t_X9_thingFor_2 C hr hS hW (hl.keep [true, true, true, true] rfl) h
theorem T_X9_thingFor (l : Launch) {G : Lay} {D : va_G} {tc : Nat → ClassId} {b0 : Nat} (l0 : Nat) (l1 : Int32) (l2 : Int32) (σ : Mem) (Qx : Nat → Mem → Prop) (h : X_X9_thingFor G Qx l0 l1 l2 σ) : MR l yX9_thingFor cX9_thingFor 4 ((some (FieldType.object "BeeRegister$Thing"))) rm_X9_thingFor G D tc b0 [rv b0 l0, .int l1, .int l2] σ Qx :=
  x_entry (y := yX9_thingFor) [.inr (.inr l0), .inl l1, .inl l2] 1 (by decide) (Nat.le_of_ble_eq_true rfl) (fun p e s m args below meth c ls C hr hW hl => t_X9_thingFor_0 C hr va_S.rf hW (hl.keep [true, true, true, false] rfl) h)
/-! X9_comes -/
set_option maxRecDepth 20000 in
set_option maxHeartbeats 4000000 in
theorem t_X9_comes_0 {p : Program} {l : Launch} {e : Env} {s : State} {m : MethodId} {args : Array Value} {below : List Frame} {meth : Method} {c : Code} {H : Heap} {locs : List Loc} {D : va_G} {tc : Nat → ClassId} {b0 : Nat} {ls : Array Slot} {G : Lay} {Qx : Nat → Mem → Prop} {l0 : Nat} {l1 : Int32} {l2 : Int32} {l3 : Int32}  {σ : Mem} (C : Cx p s m args meth c cX9_comes RX9 5 D tc b0) (hr : meth.sig.returnType = (some (FieldType.object "BeeRegister$Thing"))) (hS : va_S (AA b0) s.heap H locs) (hW : Wd G D tc b0 σ H) (hl : hL b0 ls 5 [some (.inr (.inr l0)), some (.inl l1), some (.inl l2), some (.inl l3), none]) (h : X_X9_comes_0 G Qx l0 l1 l2 l3  σ) : W p l e rm_X9_comes s m args below meth c H locs 0 0 (MQ below (va_Qq (fun o u => ∃ r, o = ro b0 r ∧ Qx r u) (fun u t => Pw G D tc b0 u t) (AA b0)) args s 0 0 (AA b0)) (F0 m 0 ls []) := by
  have hx := C.1
  have hb := C.2.1
  unfold X_X9_comes_0 at h
  refine x_aload_n C hl dX9_comes_0 rfl ?_
  have t1 := h.1
  replace h := h.2
  refine x_get C hW (t := 9) (k := 5) t1 kl_9 (by decide) fl_X9_35 (v := .int (mI σ l0 5)) rfl dX9_comes_1 ?_
  refine lv_bipush (v := (60 : Int32)) hx hb dX9_comes_4 (by decide) ?_
  refine lv_icmp_lt hx hb dX9_comes_6 (tgt := 11) rfl (fun hc => ?_) (fun hc => ?_)
  · replace h := h.1 hc
    refine x_aload_n C hl dX9_comes_11 rfl ?_
    refine x_get C hW (t := 9) (k := 1) t1 kl_9 (by decide) fl_X9_11 (v := rv b0 (mR σ l0 1)) rfl dX9_comes_12 ?_
    refine x_aload_n C hl dX9_comes_15 rfl ?_
    refine x_get C hW (t := 9) (k := 5) t1 kl_9 (by decide) fl_X9_35 (v := .int (mI σ l0 5)) rfl dX9_comes_16 ?_
    have t2 := h.1
    replace h := h.2
    have v3 := h.1
    replace h := h.2
    refine x_aald C hW (t := 105) (t0 := 6) t2 (by decide) rfl v3 dX9_comes_19 ?_
    refine x_astore C hl dX9_comes_20 (by decide) rfl (fun ls hl => ?_)
    refine x_aload_n C hl dX9_comes_22 rfl ?_
    refine lv_dup hx hb dX9_comes_23 (rv_cat _ _) ?_
    refine x_get C hW (t := 9) (k := 5) t1 kl_9 (by decide) fl_X9_35 (v := .int (mI σ l0 5)) rfl dX9_comes_24 ?_
    refine lv_iconst (v := (1 : Int32)) hx hb dX9_comes_27 (by decide) ?_
    refine lv_iadd hx hb dX9_comes_28 ?_
    refine x_putI C hW hS (t := 9) (k := 5) t1 kl_9 (by decide) fl_X9_35 rfl rfl rfl rfl dX9_comes_29 (fun H locs hW hS => ?_)
    obtain ⟨s4, e_s4⟩ : ∃ z : Mem, z = (sI σ l0 5 ((mI σ l0 5) + (1 : Int32))) := ⟨_, rfl⟩
    replace h := h s4 e_s4
    replace hW : Wd G D tc b0 s4 H := by rw [e_s4]; exact hW
    refine x_aload C hl dX9_comes_32 rfl ?_
    refine x_iload_n C hl dX9_comes_34 rfl ?_
    refine x_iload_n C hl dX9_comes_35 rfl ?_
    refine x_iload_n C hl dX9_comes_36 rfl ?_
    have t5 := h.1
    replace h := h.2
    refine y_v (x_run (As := [.int l1, .int l2, .int l3]) C hW hS (T_X7_begin l (mR σ (mR σ l0 1) (mI σ l0 5).toNatClampNeg) l1 l2 l3 s4 _ h) t5 kl_7 (CW.of yv_X7_begin ml_X9_48) ⟨rfl, rfl, ⟨by decide, by decide⟩, by decide, by decide⟩ rfl hl.1 rfl (by decide) dX9_comes_37) hS (fun s6 H locs h hW hS => ?_)
    refine x_aload C hl dX9_comes_40 rfl ?_
    exact r_r C hr hW hS h dX9_comes_42
  · replace h := h.2 hc
    refine x_null C dX9_comes_9 ?_
    exact r_r C hr hW hS h dX9_comes_10
theorem T_X9_comes (l : Launch) {G : Lay} {D : va_G} {tc : Nat → ClassId} {b0 : Nat} (l0 : Nat) (l1 : Int32) (l2 : Int32) (l3 : Int32) (σ : Mem) (Qx : Nat → Mem → Prop) (h : X_X9_comes G Qx l0 l1 l2 l3 σ) : MR l yX9_comes cX9_comes 5 ((some (FieldType.object "BeeRegister$Thing"))) rm_X9_comes G D tc b0 [rv b0 l0, .int l1, .int l2, .int l3] σ Qx :=
  x_entry (y := yX9_comes) [.inr (.inr l0), .inl l1, .inl l2, .inl l3] 1 (by decide) (Nat.le_of_ble_eq_true rfl) (fun p e s m args below meth c ls C hr hW hl => t_X9_comes_0 C hr va_S.rf hW (hl.keep [true, true, true, true, false] rfl) h)
/-! X9_meet -/
set_option maxRecDepth 20000 in
set_option maxHeartbeats 4000000 in
theorem t_X9_meet_22 {p : Program} {l : Launch} {e : Env} {s : State} {m : MethodId} {args : Array Value} {below : List Frame} {meth : Method} {c : Code} {H : Heap} {locs : List Loc} {D : va_G} {tc : Nat → ClassId} {b0 : Nat} {ls : Array Slot} {G : Lay} {Qx : Nat → Mem → Prop}  {k0 : Nat} {σ : Mem} (C : Cx p s m args meth c cX9_meet RX9 4 D tc b0) (hr : meth.sig.returnType = (some (FieldType.object "BeeRegister$Thing"))) (hS : va_S (AA b0) s.heap H locs) (hW : Wd G D tc b0 σ H) (hl : hL b0 ls 4 [none, none, none, none]) (h : X_X9_meet_22 G Qx  k0 σ) : W p l e rm_X9_meet s m args below meth c H locs 0 0 (MQ below (va_Qq (fun o u => ∃ r, o = ro b0 r ∧ Qx r u) (fun u t => Pw G D tc b0 u t) (AA b0)) args s 0 0 (AA b0)) (F0 m 22 ls [rv b0 k0]) := by
  have hx := C.1
  have hb := C.2.1
  unfold X_X9_meet_22 at h
  exact r_r C hr hW hS h dX9_meet_22
set_option maxRecDepth 20000 in
set_option maxHeartbeats 4000000 in
theorem t_X9_meet_0 {p : Program} {l : Launch} {e : Env} {s : State} {m : MethodId} {args : Array Value} {below : List Frame} {meth : Method} {c : Code} {H : Heap} {locs : List Loc} {D : va_G} {tc : Nat → ClassId} {b0 : Nat} {ls : Array Slot} {G : Lay} {Qx : Nat → Mem → Prop} {l0 : Nat} {l1 : Int32} {l2 : Int32}  {σ : Mem} (C : Cx p s m args meth c cX9_meet RX9 4 D tc b0) (hr : meth.sig.returnType = (some (FieldType.object "BeeRegister$Thing"))) (hS : va_S (AA b0) s.heap H locs) (hW : Wd G D tc b0 σ H) (hl : hL b0 ls 4 [some (.inr (.inr l0)), some (.inl l1), some (.inl l2), none]) (h : X_X9_meet_0 G Qx l0 l1 l2  σ) : W p l e rm_X9_meet s m args below meth c H locs 0 0 (MQ below (va_Qq (fun o u => ∃ r, o = ro b0 r ∧ Qx r u) (fun u t => Pw G D tc b0 u t) (AA b0)) args s 0 0 (AA b0)) (F0 m 0 ls []) := by
  have hx := C.1
  have hb := C.2.1
  unfold X_X9_meet_0 at h
  refine x_aload_n C hl dX9_meet_0 rfl ?_
  refine x_iload_n C hl dX9_meet_1 rfl ?_
  refine x_iload_n C hl dX9_meet_2 rfl ?_
  have t1 := h.1
  replace h := h.2
  refine y_r (x_run (As := [.int l1, .int l2]) C hW hS (T_X9_thingFor l l0 l1 l2 σ _ h) t1 kl_9 (CW.of yv_X9_thingFor ml_X9_52) ⟨rfl, rfl, ⟨by decide, by decide⟩, by decide, by decide⟩ rfl hl.1 rfl (by decide) dX9_meet_3) hS (fun w3 s2 H locs h hW hS => ?_)
  refine x_astore_n C hl dX9_meet_6 (by decide) rfl (fun ls hl => ?_)
  refine x_aload_n C hl dX9_meet_7 rfl ?_
  refine x_ifnull C dX9_meet_8 (tgt := 15) rfl (fun hc => ?_) (fun hc => ?_)
  · replace h := h.1 hc
    refine x_aload_n C hl dX9_meet_15 rfl ?_
    refine lv_iconst (v := (0 : Int32)) hx hb dX9_meet_16 (by decide) ?_
    refine x_iload_n C hl dX9_meet_17 rfl ?_
    refine x_iload_n C hl dX9_meet_18 rfl ?_
    refine y_r (x_run (As := [.int (0 : Int32), .int l1, .int l2]) C hW hS (T_X9_comes l l0 (0 : Int32) l1 l2 s2 _ h) t1 kl_9 (CW.of yv_X9_comes ml_X9_56) ⟨rfl, rfl, ⟨by decide, by decide⟩, by decide, by decide⟩ rfl hl.1 rfl (by decide) dX9_meet_19) hS (fun w5 s4 H locs h hW hS => ?_)
    exact t_X9_meet_22 C hr hS hW (hl.keep [false, false, false, false] rfl) h
  · replace h := h.2 hc
    refine x_aload_n C hl dX9_meet_11 rfl ?_
    refine lv_goto hx hb dX9_meet_12 (tgt := 22) rfl ?_
    exact t_X9_meet_22 C hr hS hW (hl.keep [false, false, false, false] rfl) h
theorem T_X9_meet (l : Launch) {G : Lay} {D : va_G} {tc : Nat → ClassId} {b0 : Nat} (l0 : Nat) (l1 : Int32) (l2 : Int32) (σ : Mem) (Qx : Nat → Mem → Prop) (h : X_X9_meet G Qx l0 l1 l2 σ) : MR l yX9_meet cX9_meet 4 ((some (FieldType.object "BeeRegister$Thing"))) rm_X9_meet G D tc b0 [rv b0 l0, .int l1, .int l2] σ Qx :=
  x_entry (y := yX9_meet) [.inr (.inr l0), .inl l1, .inl l2] 1 (by decide) (Nat.le_of_ble_eq_true rfl) (fun p e s m args below meth c ls C hr hW hl => t_X9_meet_0 C hr va_S.rf hW (hl.keep [true, true, true, false] rfl) h)
/-! X9_numberMet -/
set_option maxRecDepth 20000 in
set_option maxHeartbeats 4000000 in
theorem t_X9_numberMet_20 {p : Program} {l : Launch} {e : Env} {s : State} {m : MethodId} {args : Array Value} {below : List Frame} {meth : Method} {c : Code} {H : Heap} {locs : List Loc} {D : va_G} {tc : Nat → ClassId} {b0 : Nat} {ls : Array Slot} {G : Lay} {Qx : Int32 → Mem → Prop}  {k0 : Int32} {σ : Mem} (C : Cx p s m args meth c cX9_numberMet RX9 4 D tc b0) (hr : meth.sig.returnType = (some FieldType.int)) (hS : va_S (AA b0) s.heap H locs) (hW : Wd G D tc b0 σ H) (hl : hL b0 ls 4 [none, none, none, none]) (h : X_X9_numberMet_20 G Qx  k0 σ) : W p l e rm_X9_numberMet s m args below meth c H locs 0 0 (MQ below (va_Qi Qx (fun u t => Pw G D tc b0 u t) (AA b0)) args s 0 0 (AA b0)) (F0 m 20 ls [.int k0]) := by
  have hx := C.1
  have hb := C.2.1
  unfold X_X9_numberMet_20 at h
  exact r_i C hr hW hS h dX9_numberMet_20
set_option maxRecDepth 20000 in
set_option maxHeartbeats 4000000 in
theorem t_X9_numberMet_0 {p : Program} {l : Launch} {e : Env} {s : State} {m : MethodId} {args : Array Value} {below : List Frame} {meth : Method} {c : Code} {H : Heap} {locs : List Loc} {D : va_G} {tc : Nat → ClassId} {b0 : Nat} {ls : Array Slot} {G : Lay} {Qx : Int32 → Mem → Prop} {l0 : Nat} {l1 : Int32} {l2 : Int32}  {σ : Mem} (C : Cx p s m args meth c cX9_numberMet RX9 4 D tc b0) (hr : meth.sig.returnType = (some FieldType.int)) (hS : va_S (AA b0) s.heap H locs) (hW : Wd G D tc b0 σ H) (hl : hL b0 ls 4 [some (.inr (.inr l0)), some (.inl l1), some (.inl l2), none]) (h : X_X9_numberMet_0 G Qx l0 l1 l2  σ) : W p l e rm_X9_numberMet s m args below meth c H locs 0 0 (MQ below (va_Qi Qx (fun u t => Pw G D tc b0 u t) (AA b0)) args s 0 0 (AA b0)) (F0 m 0 ls []) := by
  have hx := C.1
  have hb := C.2.1
  unfold X_X9_numberMet_0 at h
  refine x_aload_n C hl dX9_numberMet_0 rfl ?_
  refine x_iload_n C hl dX9_numberMet_1 rfl ?_
  refine x_iload_n C hl dX9_numberMet_2 rfl ?_
  have t1 := h.1
  replace h := h.2
  refine y_r (x_run (As := [.int l1, .int l2]) C hW hS (T_X9_meet l l0 l1 l2 σ _ h) t1 kl_9 (CW.of yv_X9_meet ml_X9_60) ⟨rfl, rfl, ⟨by decide, by decide⟩, by decide, by decide⟩ rfl hl.1 rfl (by decide) dX9_numberMet_3) hS (fun w3 s2 H locs h hW hS => ?_)
  refine x_astore_n C hl dX9_numberMet_6 (by decide) rfl (fun ls hl => ?_)
  refine x_aload_n C hl dX9_numberMet_7 rfl ?_
  refine x_ifnonnull C dX9_numberMet_8 (tgt := 16) rfl (fun hc => ?_) (fun hc => ?_)
  · replace h := h.2 hc
    refine x_aload_n C hl dX9_numberMet_16 rfl ?_
    have t4 := h.1
    replace h := h.2
    refine x_get C hW (t := 7) (k := 0) t4 kl_7 (by decide) fl_X9_63 (v := .int (mI s2 w3 0)) rfl dX9_numberMet_17 ?_
    exact t_X9_numberMet_20 C hr hS hW (hl.keep [false, false, false, false] rfl) h
  · replace h := h.1 hc
    refine lv_bipush (v := (-2 : Int32)) hx hb dX9_numberMet_11 (by decide) ?_
    refine lv_goto hx hb dX9_numberMet_13 (tgt := 20) rfl ?_
    exact t_X9_numberMet_20 C hr hS hW (hl.keep [false, false, false, false] rfl) h
theorem T_X9_numberMet (l : Launch) {G : Lay} {D : va_G} {tc : Nat → ClassId} {b0 : Nat} (l0 : Nat) (l1 : Int32) (l2 : Int32) (σ : Mem) (Qx : Int32 → Mem → Prop) (h : X_X9_numberMet G Qx l0 l1 l2 σ) : MI l yX9_numberMet cX9_numberMet 4 ((some FieldType.int)) rm_X9_numberMet G D tc b0 [rv b0 l0, .int l1, .int l2] σ Qx :=
  x_entry (y := yX9_numberMet) [.inr (.inr l0), .inl l1, .inl l2] 1 (by decide) (Nat.le_of_ble_eq_true rfl) (fun p e s m args below meth c ls C hr hW hl => t_X9_numberMet_0 C hr va_S.rf hW (hl.keep [true, true, true, false] rfl) h)
/-! X9_loadStand -/
set_option maxRecDepth 20000 in
set_option maxHeartbeats 4000000 in
theorem t_X9_loadStand_0 {p : Program} {l : Launch} {e : Env} {s : State} {m : MethodId} {args : Array Value} {below : List Frame} {meth : Method} {c : Code} {H : Heap} {locs : List Loc} {D : va_G} {tc : Nat → ClassId} {b0 : Nat} {ls : Array Slot} {G : Lay} {Qx : Mem → Prop} {l0 : Nat} {l1 : Nat}  {σ : Mem} (C : Cx p s m args meth c cX9_loadStand RX9 3 D tc b0) (hr : meth.sig.returnType = (none : Option FieldType)) (hS : va_S (AA b0) s.heap H locs) (hW : Wd G D tc b0 σ H) (hl : hL b0 ls 3 [some (.inr (.inr l0)), some (.inr (.inr l1)), none]) (h : X_X9_loadStand_0 G Qx l0 l1  σ) : W p l e rm_X9_loadStand s m args below meth c H locs 0 0 (MQ below (va_Qv Qx (fun u t => Pw G D tc b0 u t) (AA b0)) args s 0 0 (AA b0)) (F0 m 0 ls []) := by
  have hx := C.1
  have hb := C.2.1
  unfold X_X9_loadStand_0 at h
  refine x_aload_n C hl dX9_loadStand_0 rfl ?_
  have t1 := h.1
  replace h := h.2
  refine x_get C hW (t := 7) (k := 1) t1 kl_7 (by decide) fl_X9_66 (v := .int (mI σ l1 1)) rfl dX9_loadStand_1 ?_
  refine lv_if_eq hx hb dX9_loadStand_4 (tgt := 8) rfl (fun hc => ?_) (fun hc => ?_)
  · replace h := h.1 hc
    refine x_aload_n C hl dX9_loadStand_8 rfl ?_
    have t2 := h.1
    replace h := h.2
    refine x_get C hW (t := 9) (k := 0) t2 kl_9 (by decide) fl_X9_24 (v := rv b0 (mR σ l0 0)) rfl dX9_loadStand_9 ?_
    refine x_aload_n C hl dX9_loadStand_12 rfl ?_
    refine x_get C hW (t := 7) (k := 2) t1 kl_7 (by decide) fl_X9_45 (v := .int (mI σ l1 2)) rfl dX9_loadStand_13 ?_
    refine x_aload_n C hl dX9_loadStand_16 rfl ?_
    refine x_get C hW (t := 7) (k := 3) t1 kl_7 (by decide) fl_X9_42 (v := .int (mI σ l1 3)) rfl dX9_loadStand_17 ?_
    have t3 := h.1
    replace h := h.2
    refine y_i (x_run (As := [.int (mI σ l1 2), .int (mI σ l1 3)]) C hW hS (T_X5_rowOf l (mR σ l0 0) (mI σ l1 2) (mI σ l1 3) σ _ h) t3 kl_5 (CW.of yv_X5_rowOf ml_X9_69) ⟨rfl, rfl, ⟨by decide, by decide⟩, by decide, by decide⟩ rfl hl.1 rfl (by decide) dX9_loadStand_20) hS (fun w5 s4 H locs h hW hS => ?_)
    refine x_istore_n C hl dX9_loadStand_23 (by decide) rfl (fun ls hl => ?_)
    refine x_iload_n C hl dX9_loadStand_24 rfl ?_
    refine lv_iconst (v := (-1 : Int32)) hx hb dX9_loadStand_25 (by decide) ?_
    refine lv_icmp_ne hx hb dX9_loadStand_26 (tgt := 35) rfl (fun hc => ?_) (fun hc => ?_)
    · replace h := h.2 hc
      refine x_aload_n C hl dX9_loadStand_35 rfl ?_
      refine x_aload_n C hl dX9_loadStand_36 rfl ?_
      refine x_get C hW (t := 9) (k := 0) t2 kl_9 (by decide) fl_X9_24 (v := rv b0 (mR s4 l0 0)) rfl dX9_loadStand_37 ?_
      have t6 := h.1
      replace h := h.2
      refine x_get C hW (t := 5) (k := 3) t6 kl_5 (by decide) fl_X9_75 (v := rv b0 (mR s4 (mR s4 l0 0) 3)) rfl dX9_loadStand_40 ?_
      refine x_iload_n C hl dX9_loadStand_43 rfl ?_
      have t7 := h.1
      replace h := h.2
      have v8 := h.1
      replace h := h.2
      refine x_iald C hW t7 v8 dX9_loadStand_44 ?_
      refine x_putI C hW hS (t := 7) (k := 4) t1 kl_7 (by decide) fl_X9_78 rfl rfl rfl rfl dX9_loadStand_45 (fun H locs hW hS => ?_)
      obtain ⟨s9, e_s9⟩ : ∃ z : Mem, z = (sI s4 l1 4 (mI s4 (mR s4 (mR s4 l0 0) 3) w5.toNatClampNeg)) := ⟨_, rfl⟩
      replace h := h s9 e_s9
      replace hW : Wd G D tc b0 s9 H := by rw [e_s9]; exact hW
      refine x_aload_n C hl dX9_loadStand_48 rfl ?_
      refine x_get C hW (t := 9) (k := 0) t2 kl_9 (by decide) fl_X9_24 (v := rv b0 (mR s9 l0 0)) rfl dX9_loadStand_49 ?_
      refine x_iload_n C hl dX9_loadStand_52 rfl ?_
      refine x_aload_n C hl dX9_loadStand_53 rfl ?_
      refine x_get C hW (t := 7) (k := 6) t1 kl_7 (by decide) fl_X9_80 (v := rv b0 (mR s9 l1 6)) rfl dX9_loadStand_54 ?_
      have t10 := h.1
      replace h := h.2
      refine y_v (x_run (As := [.int w5, rv b0 (mR s9 l1 6)]) C hW hS (T_X5_copyValues l (mR s9 l0 0) w5 (mR s9 l1 6) s9 _ h) t10 kl_5 (CW.of yv_X5_copyValues ml_X9_83) ⟨rfl, rfl, ⟨by decide, by decide⟩, by decide, by decide⟩ rfl hl.1 rfl (by decide) dX9_loadStand_57) hS (fun s11 H locs h hW hS => ?_)
      refine x_aload_n C hl dX9_loadStand_60 rfl ?_
      refine x_aload_n C hl dX9_loadStand_61 rfl ?_
      refine x_get C hW (t := 9) (k := 0) t2 kl_9 (by decide) fl_X9_24 (v := rv b0 (mR s11 l0 0)) rfl dX9_loadStand_62 ?_
      have t12 := h.1
      replace h := h.2
      refine x_get C hW (t := 5) (k := 4) t12 kl_5 (by decide) fl_X9_87 (v := rv b0 (mR s11 (mR s11 l0 0) 4)) rfl dX9_loadStand_65 ?_
      refine x_iload_n C hl dX9_loadStand_68 rfl ?_
      have t13 := h.1
      replace h := h.2
      have v14 := h.1
      replace h := h.2
      refine x_iald C hW t13 v14 dX9_loadStand_69 ?_
      refine y_v (x_run (As := [.int (mI s11 (mR s11 (mR s11 l0 0) 4) w5.toNatClampNeg)]) C hW hS (T_X7_keepCopy l l1 (mI s11 (mR s11 (mR s11 l0 0) 4) w5.toNatClampNeg) s11 _ h) t1 kl_7 (CW.of yv_X7_keepCopy ml_X9_90) ⟨rfl, rfl, ⟨by decide, by decide⟩, by decide, by decide⟩ rfl hl.1 rfl (by decide) dX9_loadStand_70) hS (fun s15 H locs h hW hS => ?_)
      refine x_aload_n C hl dX9_loadStand_73 rfl ?_
      refine lv_dup hx hb dX9_loadStand_74 (rv_cat _ _) ?_
      refine x_get C hW (t := 9) (k := 6) t2 kl_9 (by decide) fl_X9_39 (v := .int (mI s15 l0 6)) rfl dX9_loadStand_75 ?_
      refine lv_iconst (v := (1 : Int32)) hx hb dX9_loadStand_78 (by decide) ?_
      refine lv_iadd hx hb dX9_loadStand_79 ?_
      refine x_putI C hW hS (t := 9) (k := 6) t2 kl_9 (by decide) fl_X9_39 rfl rfl rfl rfl dX9_loadStand_80 (fun H locs hW hS => ?_)
      obtain ⟨s16, e_s16⟩ : ∃ z : Mem, z = (sI s15 l0 6 ((mI s15 l0 6) + (1 : Int32))) := ⟨_, rfl⟩
      replace h := h s16 e_s16
      replace hW : Wd G D tc b0 s16 H := by rw [e_s16]; exact hW
      exact r_v C hr hW hS h dX9_loadStand_83
    · replace h := h.1 hc
      refine x_aload_n C hl dX9_loadStand_29 rfl ?_
      refine lv_iconst (v := (4 : Int32)) hx hb dX9_loadStand_30 (by decide) ?_
      refine x_putI C hW hS (t := 7) (k := 1) t1 kl_7 (by decide) fl_X9_66 rfl rfl rfl rfl dX9_loadStand_31 (fun H locs hW hS => ?_)
      obtain ⟨s17, e_s17⟩ : ∃ z : Mem, z = (sI s4 l1 1 (4 : Int32)) := ⟨_, rfl⟩
      replace h := h s17 e_s17
      replace hW : Wd G D tc b0 s17 H := by rw [e_s17]; exact hW
      exact r_v C hr hW hS h dX9_loadStand_34
  · replace h := h.2 hc
    exact r_v C hr hW hS h dX9_loadStand_7
theorem T_X9_loadStand (l : Launch) {G : Lay} {D : va_G} {tc : Nat → ClassId} {b0 : Nat} (l0 : Nat) (l1 : Nat) (σ : Mem) (Qx : Mem → Prop) (h : X_X9_loadStand G Qx l0 l1 σ) : MV l yX9_loadStand cX9_loadStand 3 ((none : Option FieldType)) rm_X9_loadStand G D tc b0 [rv b0 l0, rv b0 l1] σ Qx :=
  x_entry (y := yX9_loadStand) [.inr (.inr l0), .inr (.inr l1)] 1 (by decide) (Nat.le_of_ble_eq_true rfl) (fun p e s m args below meth c ls C hr hW hl => t_X9_loadStand_0 C hr va_S.rf hW (hl.keep [true, true, false] rfl) h)
/-! X9_fetch -/
set_option maxRecDepth 20000 in
set_option maxHeartbeats 4000000 in
theorem t_X9_fetch_57 {p : Program} {l : Launch} {e : Env} {s : State} {m : MethodId} {args : Array Value} {below : List Frame} {meth : Method} {c : Code} {H : Heap} {locs : List Loc} {D : va_G} {tc : Nat → ClassId} {b0 : Nat} {ls : Array Slot} {G : Lay} {Qx : Int32 → Mem → Prop}  {k0 : Int32} {σ : Mem} (C : Cx p s m args meth c cX9_fetch RX9 7 D tc b0) (hr : meth.sig.returnType = (some FieldType.int)) (hS : va_S (AA b0) s.heap H locs) (hW : Wd G D tc b0 σ H) (hl : hL b0 ls 7 [none, none, none, none, none, none, none]) (h : X_X9_fetch_57 G Qx  k0 σ) : W p l e rm_X9_fetch s m args below meth c H locs 0 0 (MQ below (va_Qi Qx (fun u t => Pw G D tc b0 u t) (AA b0)) args s 0 0 (AA b0)) (F0 m 57 ls [.int k0]) := by
  have hx := C.1
  have hb := C.2.1
  unfold X_X9_fetch_57 at h
  exact r_i C hr hW hS h dX9_fetch_57
set_option maxRecDepth 20000 in
set_option maxHeartbeats 4000000 in
theorem t_X9_fetch_56 {p : Program} {l : Launch} {e : Env} {s : State} {m : MethodId} {args : Array Value} {below : List Frame} {meth : Method} {c : Code} {H : Heap} {locs : List Loc} {D : va_G} {tc : Nat → ClassId} {b0 : Nat} {ls : Array Slot} {G : Lay} {Qx : Int32 → Mem → Prop}   {σ : Mem} (C : Cx p s m args meth c cX9_fetch RX9 7 D tc b0) (hr : meth.sig.returnType = (some FieldType.int)) (hS : va_S (AA b0) s.heap H locs) (hW : Wd G D tc b0 σ H) (hl : hL b0 ls 7 [none, none, none, none, none, none, none]) (h : X_X9_fetch_56 G Qx   σ) : W p l e rm_X9_fetch s m args below meth c H locs 0 0 (MQ below (va_Qi Qx (fun u t => Pw G D tc b0 u t) (AA b0)) args s 0 0 (AA b0)) (F0 m 56 ls []) := by
  have hx := C.1
  have hb := C.2.1
  unfold X_X9_fetch_56 at h
  refine lv_iconst (v := (-1 : Int32)) hx hb dX9_fetch_56 (by decide) ?_
  exact t_X9_fetch_57 C hr hS hW (hl.keep [false, false, false, false, false, false, false] rfl) h
set_option maxRecDepth 20000 in
set_option maxHeartbeats 4000000 in
theorem t_X9_fetch_99 {p : Program} {l : Launch} {e : Env} {s : State} {m : MethodId} {args : Array Value} {below : List Frame} {meth : Method} {c : Code} {H : Heap} {locs : List Loc} {D : va_G} {tc : Nat → ClassId} {b0 : Nat} {ls : Array Slot} {G : Lay} {Qx : Int32 → Mem → Prop}   {σ : Mem} (C : Cx p s m args meth c cX9_fetch RX9 7 D tc b0) (hr : meth.sig.returnType = (some FieldType.int)) (hS : va_S (AA b0) s.heap H locs) (hW : Wd G D tc b0 σ H) (hl : hL b0 ls 7 [none, none, none, none, none, none, none]) (h : X_X9_fetch_99 G Qx   σ) : W p l e rm_X9_fetch s m args below meth c H locs 0 0 (MQ below (va_Qi Qx (fun u t => Pw G D tc b0 u t) (AA b0)) args s 0 0 (AA b0)) (F0 m 99 ls []) := by
  have hx := C.1
  have hb := C.2.1
  unfold X_X9_fetch_99 at h
  refine lv_iconst (v := (-1 : Int32)) hx hb dX9_fetch_99 (by decide) ?_
  exact r_i C hr hW hS h dX9_fetch_100
set_option maxRecDepth 20000 in
set_option maxHeartbeats 4000000 in
theorem t_X9_fetch_58 {p : Program} {l : Launch} {e : Env} {s : State} {m : MethodId} {args : Array Value} {below : List Frame} {meth : Method} {c : Code} {H : Heap} {locs : List Loc} {D : va_G} {tc : Nat → ClassId} {b0 : Nat} {ls : Array Slot} {G : Lay} {Qx : Int32 → Mem → Prop} {l0 : Nat} {l1 : Int32} {l2 : Int32} {l3 : Int32}  {σ : Mem} (C : Cx p s m args meth c cX9_fetch RX9 7 D tc b0) (hr : meth.sig.returnType = (some FieldType.int)) (hS : va_S (AA b0) s.heap H locs) (hW : Wd G D tc b0 σ H) (hl : hL b0 ls 7 [some (.inr (.inr l0)), some (.inl l1), some (.inl l2), some (.inl l3), none, none, none]) (h : X_X9_fetch_58 G Qx l0 l1 l2 l3  σ) : W p l e rm_X9_fetch s m args below meth c H locs 0 0 (MQ below (va_Qi Qx (fun u t => Pw G D tc b0 u t) (AA b0)) args s 0 0 (AA b0)) (F0 m 58 ls []) := by
  have hx := C.1
  have hb := C.2.1
  unfold X_X9_fetch_58 at h
  refine x_aload_n C hl dX9_fetch_58 rfl ?_
  have t1 := h.1
  replace h := h.2
  refine x_get C hW (t := 9) (k := 0) t1 kl_9 (by decide) fl_X9_24 (v := rv b0 (mR σ l0 0)) rfl dX9_fetch_59 ?_
  refine x_iload_n C hl dX9_fetch_62 rfl ?_
  refine x_iload_n C hl dX9_fetch_63 rfl ?_
  have t2 := h.1
  replace h := h.2
  refine y_i (x_run (As := [.int l2, .int l3]) C hW hS (T_X5_rowOf l (mR σ l0 0) l2 l3 σ _ h) t2 kl_5 (CW.of yv_X5_rowOf ml_X9_69) ⟨rfl, rfl, ⟨by decide, by decide⟩, by decide, by decide⟩ rfl hl.1 rfl (by decide) dX9_fetch_64) hS (fun w4 s3 H locs h hW hS => ?_)
  refine x_istore C hl dX9_fetch_67 (by decide) rfl (fun ls hl => ?_)
  refine x_iload C hl dX9_fetch_69 rfl ?_
  refine lv_iconst (v := (-1 : Int32)) hx hb dX9_fetch_71 (by decide) ?_
  refine lv_icmp_eq hx hb dX9_fetch_72 (tgt := 99) rfl (fun hc => ?_) (fun hc => ?_)
  · replace h := h.1 hc
    exact t_X9_fetch_99 C hr hS hW (hl.keep [false, false, false, false, false, false, false] rfl) h
  · replace h := h.2 hc
    refine x_aload_n C hl dX9_fetch_75 rfl ?_
    refine x_get C hW (t := 9) (k := 0) t1 kl_9 (by decide) fl_X9_24 (v := rv b0 (mR s3 l0 0)) rfl dX9_fetch_76 ?_
    have t5 := h.1
    replace h := h.2
    refine x_get C hW (t := 5) (k := 0) t5 kl_5 (by decide) fl_X9_97 (v := rv b0 (mR s3 (mR s3 l0 0) 0)) rfl dX9_fetch_79 ?_
    refine x_aload_n C hl dX9_fetch_82 rfl ?_
    refine x_get C hW (t := 9) (k := 0) t1 kl_9 (by decide) fl_X9_24 (v := rv b0 (mR s3 l0 0)) rfl dX9_fetch_83 ?_
    refine x_get C hW (t := 5) (k := 3) t5 kl_5 (by decide) fl_X9_75 (v := rv b0 (mR s3 (mR s3 l0 0) 3)) rfl dX9_fetch_86 ?_
    refine x_iload C hl dX9_fetch_89 rfl ?_
    have t6 := h.1
    replace h := h.2
    have v7 := h.1
    replace h := h.2
    refine x_iald C hW t6 v7 dX9_fetch_91 ?_
    refine x_iload_n C hl dX9_fetch_92 rfl ?_
    have t8 := h.1
    replace h := h.2
    refine y_i (x_run (As := [.int (mI s3 (mR s3 (mR s3 l0 0) 3) w4.toNatClampNeg), .int l1]) C hW hS (T_X6_isOf l (mR s3 (mR s3 l0 0) 0) (mI s3 (mR s3 (mR s3 l0 0) 3) w4.toNatClampNeg) l1 s3 _ h) t8 kl_6 (CW.of yv_X6_isOf ml_X9_101) ⟨rfl, rfl, ⟨by decide, by decide⟩, by decide, by decide⟩ rfl hl.1 rfl (by decide) dX9_fetch_93) hS (fun w10 s9 H locs h hW hS => ?_)
    refine lv_if_ne hx hb dX9_fetch_96 (tgt := 101) rfl (fun hc => ?_) (fun hc => ?_)
    · replace h := h.2 hc
      refine x_aload_n C hl dX9_fetch_101 rfl ?_
      refine x_iload_n C hl dX9_fetch_102 rfl ?_
      refine x_iload_n C hl dX9_fetch_103 rfl ?_
      refine y_r (x_run (As := [.int l2, .int l3]) C hW hS (T_X9_meet l l0 l2 l3 s9 _ h) t1 kl_9 (CW.of yv_X9_meet ml_X9_60) ⟨rfl, rfl, ⟨by decide, by decide⟩, by decide, by decide⟩ rfl hl.1 rfl (by decide) dX9_fetch_104) hS (fun w12 s11 H locs h hW hS => ?_)
      refine x_astore C hl dX9_fetch_107 (by decide) rfl (fun ls hl => ?_)
      refine x_aload C hl dX9_fetch_109 rfl ?_
      refine x_ifnonnull C dX9_fetch_111 (tgt := 117) rfl (fun hc => ?_) (fun hc => ?_)
      · replace h := h.2 hc
        refine x_aload_n C hl dX9_fetch_117 rfl ?_
        refine x_aload C hl dX9_fetch_118 rfl ?_
        refine y_v (x_run (As := [rv b0 w12]) C hW hS (T_X9_loadStand l l0 w12 s11 _ h) t1 kl_9 (CW.of yv_X9_loadStand ml_X9_107) ⟨rfl, rfl, ⟨by decide, by decide⟩, by decide, by decide⟩ rfl hl.1 rfl (by decide) dX9_fetch_120) hS (fun s13 H locs h hW hS => ?_)
        refine x_aload C hl dX9_fetch_123 rfl ?_
        have t14 := h.1
        replace h := h.2
        refine x_get C hW (t := 7) (k := 0) t14 kl_7 (by decide) fl_X9_63 (v := .int (mI s13 w12 0)) rfl dX9_fetch_125 ?_
        exact r_i C hr hW hS h dX9_fetch_128
      · replace h := h.1 hc
        refine lv_bipush (v := (-2 : Int32)) hx hb dX9_fetch_114 (by decide) ?_
        exact r_i C hr hW hS h dX9_fetch_116
    · replace h := h.1 hc
      exact t_X9_fetch_99 C hr hS hW (hl.keep [false, false, false, false, false, false, false] rfl) h
set_option maxRecDepth 20000 in
set_option maxHeartbeats 4000000 in
theorem t_X9_fetch_0 {p : Program} {l : Launch} {e : Env} {s : State} {m : MethodId} {args : Array Value} {below : List Frame} {meth : Method} {c : Code} {H : Heap} {locs : List Loc} {D : va_G} {tc : Nat → ClassId} {b0 : Nat} {ls : Array Slot} {G : Lay} {Qx : Int32 → Mem → Prop} {l0 : Nat} {l1 : Int32} {l2 : Int32} {l3 : Int32}  {σ : Mem} (C : Cx p s m args meth c cX9_fetch RX9 7 D tc b0) (hr : meth.sig.returnType = (some FieldType.int)) (hS : va_S (AA b0) s.heap H locs) (hW : Wd G D tc b0 σ H) (hl : hL b0 ls 7 [some (.inr (.inr l0)), some (.inl l1), some (.inl l2), some (.inl l3), none, none, none]) (h : X_X9_fetch_0 G Qx l0 l1 l2 l3  σ) : W p l e rm_X9_fetch s m args below meth c H locs 0 0 (MQ below (va_Qi Qx (fun u t => Pw G D tc b0 u t) (AA b0)) args s 0 0 (AA b0)) (F0 m 0 ls []) := by
  have hx := C.1
  have hb := C.2.1
  unfold X_X9_fetch_0 at h
  refine x_aload_n C hl dX9_fetch_0 rfl ?_
  refine x_iload_n C hl dX9_fetch_1 rfl ?_
  refine x_iload_n C hl dX9_fetch_2 rfl ?_
  have t1 := h.1
  replace h := h.2
  refine y_r (x_run (As := [.int l2, .int l3]) C hW hS (T_X9_thingFor l l0 l2 l3 σ _ h) t1 kl_9 (CW.of yv_X9_thingFor ml_X9_52) ⟨rfl, rfl, ⟨by decide, by decide⟩, by decide, by decide⟩ rfl hl.1 rfl (by decide) dX9_fetch_3) hS (fun w3 s2 H locs h hW hS => ?_)
  refine x_astore C hl dX9_fetch_6 (by decide) rfl (fun ls hl => ?_)
  refine x_aload C hl dX9_fetch_8 rfl ?_
  refine x_ifnull C dX9_fetch_10 (tgt := 58) rfl (fun hc => ?_) (fun hc => ?_)
  · replace h := h.1 hc
    exact t_X9_fetch_58 C hr hS hW (hl.keep [true, true, true, true, false, false, false] rfl) h
  · replace h := h.2 hc
    refine x_aload C hl dX9_fetch_13 rfl ?_
    have t4 := h.1
    replace h := h.2
    refine x_get C hW (t := 7) (k := 1) t4 kl_7 (by decide) fl_X9_66 (v := .int (mI s2 w3 1)) rfl dX9_fetch_15 ?_
    refine lv_if_eq hx hb dX9_fetch_18 (tgt := 58) rfl (fun hc => ?_) (fun hc => ?_)
    · replace h := h.1 hc
      exact t_X9_fetch_58 C hr hS hW (hl.keep [true, true, true, true, false, false, false] rfl) h
    · replace h := h.2 hc
      refine x_aload C hl dX9_fetch_21 rfl ?_
      refine y_i (x_run (As := []) C hW hS (T_X7_isLive l w3 s2 _ h) t4 kl_7 (CW.of yv_X7_isLive ml_X9_93) ⟨rfl, rfl, ⟨by decide, by decide⟩, by decide, by decide⟩ rfl hl.1 rfl (by decide) dX9_fetch_23) hS (fun w6 s5 H locs h hW hS => ?_)
      refine lv_if_eq hx hb dX9_fetch_26 (tgt := 56) rfl (fun hc => ?_) (fun hc => ?_)
      · replace h := h.1 hc
        exact t_X9_fetch_56 C hr hS hW (hl.keep [false, false, false, false, false, false, false] rfl) h
      · replace h := h.2 hc
        refine x_aload_n C hl dX9_fetch_29 rfl ?_
        refine x_get C hW (t := 9) (k := 0) t1 kl_9 (by decide) fl_X9_24 (v := rv b0 (mR s5 l0 0)) rfl dX9_fetch_30 ?_
        have t7 := h.1
        replace h := h.2
        refine x_get C hW (t := 5) (k := 0) t7 kl_5 (by decide) fl_X9_97 (v := rv b0 (mR s5 (mR s5 l0 0) 0)) rfl dX9_fetch_33 ?_
        refine x_aload C hl dX9_fetch_36 rfl ?_
        refine x_get C hW (t := 7) (k := 4) t4 kl_7 (by decide) fl_X9_78 (v := .int (mI s5 w3 4)) rfl dX9_fetch_38 ?_
        refine x_iload_n C hl dX9_fetch_41 rfl ?_
        have t8 := h.1
        replace h := h.2
        refine y_i (x_run (As := [.int (mI s5 w3 4), .int l1]) C hW hS (T_X6_isOf l (mR s5 (mR s5 l0 0) 0) (mI s5 w3 4) l1 s5 _ h) t8 kl_6 (CW.of yv_X6_isOf ml_X9_101) ⟨rfl, rfl, ⟨by decide, by decide⟩, by decide, by decide⟩ rfl hl.1 rfl (by decide) dX9_fetch_42) hS (fun w10 s9 H locs h hW hS => ?_)
        refine lv_if_eq hx hb dX9_fetch_45 (tgt := 56) rfl (fun hc => ?_) (fun hc => ?_)
        · replace h := h.1 hc
          exact t_X9_fetch_56 C hr hS hW (hl.keep [false, false, false, false, false, false, false] rfl) h
        · replace h := h.2 hc
          refine x_aload C hl dX9_fetch_48 rfl ?_
          refine x_get C hW (t := 7) (k := 0) t4 kl_7 (by decide) fl_X9_63 (v := .int (mI s9 w3 0)) rfl dX9_fetch_50 ?_
          refine lv_goto hx hb dX9_fetch_53 (tgt := 57) rfl ?_
          exact t_X9_fetch_57 C hr hS hW (hl.keep [false, false, false, false, false, false, false] rfl) h
theorem T_X9_fetch (l : Launch) {G : Lay} {D : va_G} {tc : Nat → ClassId} {b0 : Nat} (l0 : Nat) (l1 : Int32) (l2 : Int32) (l3 : Int32) (σ : Mem) (Qx : Int32 → Mem → Prop) (h : X_X9_fetch G Qx l0 l1 l2 l3 σ) : MI l yX9_fetch cX9_fetch 7 ((some FieldType.int)) rm_X9_fetch G D tc b0 [rv b0 l0, .int l1, .int l2, .int l3] σ Qx :=
  x_entry (y := yX9_fetch) [.inr (.inr l0), .inl l1, .inl l2, .inl l3] 3 (by decide) (Nat.le_of_ble_eq_true rfl) (fun p e s m args below meth c ls C hr hW hl => t_X9_fetch_0 C hr va_S.rf hW (hl.keep [true, true, true, true, false, false, false] rfl) h)
/-! X9_isToldByRow -/
set_option maxRecDepth 20000 in
set_option maxHeartbeats 4000000 in
theorem t_X9_isToldByRow_23 {p : Program} {l : Launch} {e : Env} {s : State} {m : MethodId} {args : Array Value} {below : List Frame} {meth : Method} {c : Code} {H : Heap} {locs : List Loc} {D : va_G} {tc : Nat → ClassId} {b0 : Nat} {ls : Array Slot} {G : Lay} {Qx : Int32 → Mem → Prop}  {k0 : Int32} {σ : Mem} (C : Cx p s m args meth c cX9_isToldByRow RX9 4 D tc b0) (hr : meth.sig.returnType = (some FieldType.boolean)) (hS : va_S (AA b0) s.heap H locs) (hW : Wd G D tc b0 σ H) (hl : hL b0 ls 4 [none, none, none, none]) (h : X_X9_isToldByRow_23 G Qx  k0 σ) : W p l e rm_X9_isToldByRow s m args below meth c H locs 0 0 (MQ below (va_Qi Qx (fun u t => Pw G D tc b0 u t) (AA b0)) args s 0 0 (AA b0)) (F0 m 23 ls [.int k0]) := by
  have hx := C.1
  have hb := C.2.1
  unfold X_X9_isToldByRow_23 at h
  exact r_z C hr hW hS h.1 h.2 dX9_isToldByRow_23
set_option maxRecDepth 20000 in
set_option maxHeartbeats 4000000 in
theorem t_X9_isToldByRow_18 {p : Program} {l : Launch} {e : Env} {s : State} {m : MethodId} {args : Array Value} {below : List Frame} {meth : Method} {c : Code} {H : Heap} {locs : List Loc} {D : va_G} {tc : Nat → ClassId} {b0 : Nat} {ls : Array Slot} {G : Lay} {Qx : Int32 → Mem → Prop}   {σ : Mem} (C : Cx p s m args meth c cX9_isToldByRow RX9 4 D tc b0) (hr : meth.sig.returnType = (some FieldType.boolean)) (hS : va_S (AA b0) s.heap H locs) (hW : Wd G D tc b0 σ H) (hl : hL b0 ls 4 [none, none, none, none]) (h : X_X9_isToldByRow_18 G Qx   σ) : W p l e rm_X9_isToldByRow s m args below meth c H locs 0 0 (MQ below (va_Qi Qx (fun u t => Pw G D tc b0 u t) (AA b0)) args s 0 0 (AA b0)) (F0 m 18 ls []) := by
  have hx := C.1
  have hb := C.2.1
  unfold X_X9_isToldByRow_18 at h
  refine lv_iconst (v := (1 : Int32)) hx hb dX9_isToldByRow_18 (by decide) ?_
  refine lv_goto hx hb dX9_isToldByRow_19 (tgt := 23) rfl ?_
  exact t_X9_isToldByRow_23 C hr hS hW (hl.keep [false, false, false, false] rfl) h
set_option maxRecDepth 20000 in
set_option maxHeartbeats 4000000 in
theorem t_X9_isToldByRow_0 {p : Program} {l : Launch} {e : Env} {s : State} {m : MethodId} {args : Array Value} {below : List Frame} {meth : Method} {c : Code} {H : Heap} {locs : List Loc} {D : va_G} {tc : Nat → ClassId} {b0 : Nat} {ls : Array Slot} {G : Lay} {Qx : Int32 → Mem → Prop} {l0 : Nat} {l1 : Int32} {l2 : Int32}  {σ : Mem} (C : Cx p s m args meth c cX9_isToldByRow RX9 4 D tc b0) (hr : meth.sig.returnType = (some FieldType.boolean)) (hS : va_S (AA b0) s.heap H locs) (hW : Wd G D tc b0 σ H) (hl : hL b0 ls 4 [some (.inr (.inr l0)), some (.inl l1), some (.inl l2), none]) (h : X_X9_isToldByRow_0 G Qx l0 l1 l2  σ) : W p l e rm_X9_isToldByRow s m args below meth c H locs 0 0 (MQ below (va_Qi Qx (fun u t => Pw G D tc b0 u t) (AA b0)) args s 0 0 (AA b0)) (F0 m 0 ls []) := by
  have hx := C.1
  have hb := C.2.1
  unfold X_X9_isToldByRow_0 at h
  refine x_aload_n C hl dX9_isToldByRow_0 rfl ?_
  refine x_iload_n C hl dX9_isToldByRow_1 rfl ?_
  refine x_iload_n C hl dX9_isToldByRow_2 rfl ?_
  have t1 := h.1
  replace h := h.2
  refine y_r (x_run (As := [.int l1, .int l2]) C hW hS (T_X9_thingFor l l0 l1 l2 σ _ h) t1 kl_9 (CW.of yv_X9_thingFor ml_X9_52) ⟨rfl, rfl, ⟨by decide, by decide⟩, by decide, by decide⟩ rfl hl.1 rfl (by decide) dX9_isToldByRow_3) hS (fun w3 s2 H locs h hW hS => ?_)
  refine x_astore_n C hl dX9_isToldByRow_6 (by decide) rfl (fun ls hl => ?_)
  refine x_aload_n C hl dX9_isToldByRow_7 rfl ?_
  refine x_ifnull C dX9_isToldByRow_8 (tgt := 18) rfl (fun hc => ?_) (fun hc => ?_)
  · replace h := h.1 hc
    exact t_X9_isToldByRow_18 C hr hS hW (hl.keep [false, false, false, false] rfl) h
  · replace h := h.2 hc
    refine x_aload_n C hl dX9_isToldByRow_11 rfl ?_
    have t4 := h.1
    replace h := h.2
    refine x_get C hW (t := 7) (k := 1) t4 kl_7 (by decide) fl_X9_66 (v := .int (mI s2 w3 1)) rfl dX9_isToldByRow_12 ?_
    refine lv_if_ne hx hb dX9_isToldByRow_15 (tgt := 22) rfl (fun hc => ?_) (fun hc => ?_)
    · replace h := h.2 hc
      refine lv_iconst (v := (0 : Int32)) hx hb dX9_isToldByRow_22 (by decide) ?_
      exact t_X9_isToldByRow_23 C hr hS hW (hl.keep [false, false, false, false] rfl) h
    · replace h := h.1 hc
      exact t_X9_isToldByRow_18 C hr hS hW (hl.keep [false, false, false, false] rfl) h
theorem T_X9_isToldByRow (l : Launch) {G : Lay} {D : va_G} {tc : Nat → ClassId} {b0 : Nat} (l0 : Nat) (l1 : Int32) (l2 : Int32) (σ : Mem) (Qx : Int32 → Mem → Prop) (h : X_X9_isToldByRow G Qx l0 l1 l2 σ) : MI l yX9_isToldByRow cX9_isToldByRow 4 ((some FieldType.boolean)) rm_X9_isToldByRow G D tc b0 [rv b0 l0, .int l1, .int l2] σ Qx :=
  x_entry (y := yX9_isToldByRow) [.inr (.inr l0), .inl l1, .inl l2] 1 (by decide) (Nat.le_of_ble_eq_true rfl) (fun p e s m args below meth c ls C hr hW hl => t_X9_isToldByRow_0 C hr va_S.rf hW (hl.keep [true, true, true, false] rfl) h)
/-! X9_enlist -/
set_option maxRecDepth 20000 in
set_option maxHeartbeats 4000000 in
theorem t_X9_enlist_38 {p : Program} {l : Launch} {e : Env} {s : State} {m : MethodId} {args : Array Value} {below : List Frame} {meth : Method} {c : Code} {H : Heap} {locs : List Loc} {D : va_G} {tc : Nat → ClassId} {b0 : Nat} {ls : Array Slot} {G : Lay} {Qx : Mem → Prop} {l0 : Nat} {l1 : Int32} {l3 : Int32}  {σ : Mem} (C : Cx p s m args meth c cX9_enlist RX9 4 D tc b0) (hr : meth.sig.returnType = (none : Option FieldType)) (hS : va_S (AA b0) s.heap H locs) (hW : Wd G D tc b0 σ H) (hl : hL b0 ls 4 [some (.inr (.inr l0)), some (.inl l1), none, some (.inl l3)]) (h : X_X9_enlist_38 G Qx l0 l1 l3  σ) : W p l e rm_X9_enlist s m args below meth c H locs 0 0 (MQ below (va_Qv Qx (fun u t => Pw G D tc b0 u t) (AA b0)) args s 0 0 (AA b0)) (F0 m 38 ls []) := by
  have hx := C.1
  have hb := C.2.1
  unfold X_X9_enlist_38 at h
  refine x_aload_n C hl dX9_enlist_38 rfl ?_
  have t1 := h.1
  replace h := h.2
  refine x_get C hW (t := 9) (k := 3) t1 kl_9 (by decide) fl_X9_20 (v := rv b0 (mR σ l0 3)) rfl dX9_enlist_39 ?_
  refine x_iload_n C hl dX9_enlist_42 rfl ?_
  refine x_iload_n C hl dX9_enlist_43 rfl ?_
  have t2 := h.1
  replace h := h.2
  have v3 := h.1
  replace h := h.2
  refine x_iast C hW hS t2 v3 dX9_enlist_44 (fun H locs hW hS => ?_)
  obtain ⟨s4, e_s4⟩ : ∃ z : Mem, z = (sI σ (mR σ l0 3) l3.toNatClampNeg l1) := ⟨_, rfl⟩
  replace h := h s4 e_s4
  replace hW : Wd G D tc b0 s4 H := by rw [e_s4]; exact hW
  exact r_v C hr hW hS h dX9_enlist_45
set_option maxRecDepth 20000 in
set_option maxHeartbeats 4000000 in
theorem t_X9_enlist_2_n {p : Program} {l : Launch} {e : Env} {s : State} {m : MethodId} {args : Array Value} {below : List Frame} {meth : Method} {c : Code} {D : va_G} {tc : Nat → ClassId} {b0 : Nat} {G : Lay} {Qx : Mem → Prop} {l0 : Nat} {l1 : Int32} (C : Cx p s m args meth c cX9_enlist RX9 4 D tc b0) (hr : meth.sig.returnType = (none : Option FieldType)) (n : Nat) : ∀ (l3 : Int32) (σ : Mem) (H : Heap) (locs : List Loc) (ls : Array Slot), va_S (AA b0) s.heap H locs → Wd G D tc b0 σ H → hL b0 ls 4 [some (.inr (.inr l0)), some (.inl l1), none, some (.inl l3)] → Lp (X_X9_enlist_2_s G Qx l0 l1) n (l3, σ) → W p l e rm_X9_enlist s m args below meth c H locs 0 0 (MQ below (va_Qv Qx (fun u t => Pw G D tc b0 u t) (AA b0)) args s 0 0 (AA b0)) (F0 m 2 ls []) := by
  have hx := C.1
  have hb := C.2.1
  induction n with
  | zero => intro l3 σ H locs ls hS hW hl h; exact False.elim h
  | succ n hK2 =>
    intro l3 σ H locs ls hS hW hl h
    replace h : X_X9_enlist_2_s G Qx l0 l1 (Lp (X_X9_enlist_2_s G Qx l0 l1) n) (l3, σ) := h
    unfold X_X9_enlist_2_s at h
    refine x_iload_n C hl dX9_enlist_2 rfl ?_
    refine lv_if_le hx hb dX9_enlist_3 (tgt := 38) rfl (fun hc => ?_) (fun hc => ?_)
    · replace h := h.1 hc
      exact t_X9_enlist_38 C hr hS hW (hl.keep [true, true, false, true] rfl) h
    · replace h := h.2 hc
      refine x_aload_n C hl dX9_enlist_6 rfl ?_
      have t1 := h.1
      replace h := h.2
      refine x_get C hW (t := 9) (k := 3) t1 kl_9 (by decide) fl_X9_20 (v := rv b0 (mR σ l0 3)) rfl dX9_enlist_7 ?_
      refine x_iload_n C hl dX9_enlist_10 rfl ?_
      refine lv_iconst (v := (1 : Int32)) hx hb dX9_enlist_11 (by decide) ?_
      refine lv_isub hx hb dX9_enlist_12 ?_
      have t2 := h.1
      replace h := h.2
      have v3 := h.1
      replace h := h.2
      refine x_iald C hW t2 v3 dX9_enlist_13 ?_
      refine x_iload_n C hl dX9_enlist_14 rfl ?_
      refine lv_icmp_le hx hb dX9_enlist_15 (tgt := 38) rfl (fun hc => ?_) (fun hc => ?_)
      · replace h := h.1 hc
        exact t_X9_enlist_38 C hr hS hW (hl.keep [true, true, false, true] rfl) h
      · replace h := h.2 hc
        refine x_aload_n C hl dX9_enlist_18 rfl ?_
        refine x_get C hW (t := 9) (k := 3) t1 kl_9 (by decide) fl_X9_20 (v := rv b0 (mR σ l0 3)) rfl dX9_enlist_19 ?_
        refine x_iload_n C hl dX9_enlist_22 rfl ?_
        refine x_aload_n C hl dX9_enlist_23 rfl ?_
        refine x_get C hW (t := 9) (k := 3) t1 kl_9 (by decide) fl_X9_20 (v := rv b0 (mR σ l0 3)) rfl dX9_enlist_24 ?_
        refine x_iload_n C hl dX9_enlist_27 rfl ?_
        refine lv_iconst (v := (1 : Int32)) hx hb dX9_enlist_28 (by decide) ?_
        refine lv_isub hx hb dX9_enlist_29 ?_
        refine x_iald C hW t2 v3 dX9_enlist_30 ?_
        have v4 := h.1
        replace h := h.2
        refine x_iast C hW hS t2 v4 dX9_enlist_31 (fun H locs hW hS => ?_)
        obtain ⟨s5, e_s5⟩ : ∃ z : Mem, z = (sI σ (mR σ l0 3) l3.toNatClampNeg (mI σ (mR σ l0 3) (l3 - (1 : Int32)).toNatClampNeg)) := ⟨_, rfl⟩
        replace h := h s5 e_s5
        replace hW : Wd G D tc b0 s5 H := by rw [e_s5]; exact hW
        refine x_iinc C hl dX9_enlist_32 rfl (v := (-1 : Int32)) (by decide) (by decide) rfl (fun ls hl => ?_)
        refine lv_goto hx hb dX9_enlist_35 (tgt := 2) rfl ?_
        exact hK2 _ _ _ _ _ hS hW (hl.keep [true, true, false, true] rfl) h
set_option maxRecDepth 20000 in
set_option maxHeartbeats 4000000 in
theorem t_X9_enlist_2 {p : Program} {l : Launch} {e : Env} {s : State} {m : MethodId} {args : Array Value} {below : List Frame} {meth : Method} {c : Code} {H : Heap} {locs : List Loc} {D : va_G} {tc : Nat → ClassId} {b0 : Nat} {ls : Array Slot} {G : Lay} {Qx : Mem → Prop} {l0 : Nat} {l1 : Int32} {l3 : Int32}  {σ : Mem} (C : Cx p s m args meth c cX9_enlist RX9 4 D tc b0) (hr : meth.sig.returnType = (none : Option FieldType)) (hS : va_S (AA b0) s.heap H locs) (hW : Wd G D tc b0 σ H) (hl : hL b0 ls 4 [some (.inr (.inr l0)), some (.inl l1), none, some (.inl l3)]) (h : X_X9_enlist_2 G Qx l0 l1 l3 σ) : W p l e rm_X9_enlist s m args below meth c H locs 0 0 (MQ below (va_Qv Qx (fun u t => Pw G D tc b0 u t) (AA b0)) args s 0 0 (AA b0)) (F0 m 2 ls []) := by
  obtain ⟨n, h⟩ := h
  exact t_X9_enlist_2_n C hr n l3 σ H locs ls hS hW hl h
set_option maxRecDepth 20000 in
set_option maxHeartbeats 4000000 in
theorem t_X9_enlist_0 {p : Program} {l : Launch} {e : Env} {s : State} {m : MethodId} {args : Array Value} {below : List Frame} {meth : Method} {c : Code} {H : Heap} {locs : List Loc} {D : va_G} {tc : Nat → ClassId} {b0 : Nat} {ls : Array Slot} {G : Lay} {Qx : Mem → Prop} {l0 : Nat} {l1 : Int32} {l2 : Int32}  {σ : Mem} (C : Cx p s m args meth c cX9_enlist RX9 4 D tc b0) (hr : meth.sig.returnType = (none : Option FieldType)) (hS : va_S (AA b0) s.heap H locs) (hW : Wd G D tc b0 σ H) (hl : hL b0 ls 4 [some (.inr (.inr l0)), some (.inl l1), some (.inl l2), none]) (h : X_X9_enlist_0 G Qx l0 l1 l2  σ) : W p l e rm_X9_enlist s m args below meth c H locs 0 0 (MQ below (va_Qv Qx (fun u t => Pw G D tc b0 u t) (AA b0)) args s 0 0 (AA b0)) (F0 m 0 ls []) := by
  have hx := C.1
  have hb := C.2.1
  unfold X_X9_enlist_0 at h
  refine x_iload_n C hl dX9_enlist_0 rfl ?_
  refine x_istore_n C hl dX9_enlist_1 (by decide) rfl (fun ls hl => ?_)
  exact t_X9_enlist_2 C hr hS hW (hl.keep [true, true, false, true] rfl) h
theorem T_X9_enlist (l : Launch) {G : Lay} {D : va_G} {tc : Nat → ClassId} {b0 : Nat} (l0 : Nat) (l1 : Int32) (l2 : Int32) (σ : Mem) (Qx : Mem → Prop) (h : X_X9_enlist G Qx l0 l1 l2 σ) : MV l yX9_enlist cX9_enlist 4 ((none : Option FieldType)) rm_X9_enlist G D tc b0 [rv b0 l0, .int l1, .int l2] σ Qx :=
  x_entry (y := yX9_enlist) [.inr (.inr l0), .inl l1, .inl l2] 1 (by decide) (Nat.le_of_ble_eq_true rfl) (fun p e s m args below meth c ls C hr hW hl => t_X9_enlist_0 C hr va_S.rf hW (hl.keep [true, true, true, false] rfl) h)
/-! X9_gather -/
set_option maxRecDepth 20000 in
set_option maxHeartbeats 4000000 in
theorem t_X9_gather_126 {p : Program} {l : Launch} {e : Env} {s : State} {m : MethodId} {args : Array Value} {below : List Frame} {meth : Method} {c : Code} {H : Heap} {locs : List Loc} {D : va_G} {tc : Nat → ClassId} {b0 : Nat} {ls : Array Slot} {G : Lay} {Qx : Int32 → Mem → Prop} {l0 : Nat} {l1 : Nat} {l2 : Nat} {l3 : Int32} {l4 : Int32} {l5 : Int32}  {K28 : Int32 × Int32 × Mem → Prop} {σ : Mem} (C : Cx p s m args meth c cX9_gather RX9 7 D tc b0) (hr : meth.sig.returnType = (some FieldType.int)) (hK28 : ∀ (x4 : Int32) (x5 : Int32) (σ : Mem) (H : Heap) (locs : List Loc) (ls : Array Slot), va_S (AA b0) s.heap H locs → Wd G D tc b0 σ H → hL b0 ls 7 [some (.inr (.inr l0)), some (.inr (.inr l1)), some (.inr (.inr l2)), some (.inl l3), some (.inl x4), some (.inl x5), none] → K28 (x4, x5, σ) → W p l e rm_X9_gather s m args below meth c H locs 0 0 (MQ below (va_Qi Qx (fun u t => Pw G D tc b0 u t) (AA b0)) args s 0 0 (AA b0)) (F0 m 28 ls [])) (hS : va_S (AA b0) s.heap H locs) (hW : Wd G D tc b0 σ H) (hl : hL b0 ls 7 [some (.inr (.inr l0)), some (.inr (.inr l1)), some (.inr (.inr l2)), some (.inl l3), some (.inl l4), some (.inl l5), none]) (h : X_X9_gather_126 G Qx K28 l0 l1 l2 l3 l4 l5  σ) : W p l e rm_X9_gather s m args below meth c H locs 0 0 (MQ below (va_Qi Qx (fun u t => Pw G D tc b0 u t) (AA b0)) args s 0 0 (AA b0)) (F0 m 126 ls []) := by
  have hx := C.1
  have hb := C.2.1
  unfold X_X9_gather_126 at h
  refine x_iinc C hl dX9_gather_126 rfl (v := (1 : Int32)) (by decide) (by decide) rfl (fun ls hl => ?_)
  refine lv_goto hx hb dX9_gather_129 (tgt := 28) rfl ?_
  exact hK28 _ _ _ _ _ _ hS hW (hl.keep [true, true, true, true, true, true, false] rfl) h
set_option maxRecDepth 20000 in
set_option maxHeartbeats 4000000 in
theorem t_X9_gather_214 {p : Program} {l : Launch} {e : Env} {s : State} {m : MethodId} {args : Array Value} {below : List Frame} {meth : Method} {c : Code} {H : Heap} {locs : List Loc} {D : va_G} {tc : Nat → ClassId} {b0 : Nat} {ls : Array Slot} {G : Lay} {Qx : Int32 → Mem → Prop} {l0 : Nat} {l1 : Nat} {l2 : Nat} {l4 : Int32} {l5 : Int32}  {K135 : Int32 × Int32 × Mem → Prop} {σ : Mem} (C : Cx p s m args meth c cX9_gather RX9 7 D tc b0) (hr : meth.sig.returnType = (some FieldType.int)) (hK135 : ∀ (x4 : Int32) (x5 : Int32) (σ : Mem) (H : Heap) (locs : List Loc) (ls : Array Slot), va_S (AA b0) s.heap H locs → Wd G D tc b0 σ H → hL b0 ls 7 [some (.inr (.inr l0)), some (.inr (.inr l1)), some (.inr (.inr l2)), none, some (.inl x4), some (.inl x5), none] → K135 (x4, x5, σ) → W p l e rm_X9_gather s m args below meth c H locs 0 0 (MQ below (va_Qi Qx (fun u t => Pw G D tc b0 u t) (AA b0)) args s 0 0 (AA b0)) (F0 m 135 ls [])) (hS : va_S (AA b0) s.heap H locs) (hW : Wd G D tc b0 σ H) (hl : hL b0 ls 7 [some (.inr (.inr l0)), some (.inr (.inr l1)), some (.inr (.inr l2)), none, some (.inl l4), some (.inl l5), none]) (h : X_X9_gather_214 G Qx K135 l0 l1 l2 l4 l5  σ) : W p l e rm_X9_gather s m args below meth c H locs 0 0 (MQ below (va_Qi Qx (fun u t => Pw G D tc b0 u t) (AA b0)) args s 0 0 (AA b0)) (F0 m 214 ls []) := by
  have hx := C.1
  have hb := C.2.1
  unfold X_X9_gather_214 at h
  refine x_iinc C hl dX9_gather_214 rfl (v := (1 : Int32)) (by decide) (by decide) rfl (fun ls hl => ?_)
  refine lv_goto hx hb dX9_gather_217 (tgt := 135) rfl ?_
  exact hK135 _ _ _ _ _ _ hS hW (hl.keep [true, true, true, false, true, true, false] rfl) h
set_option maxRecDepth 20000 in
set_option maxHeartbeats 4000000 in
theorem t_X9_gather_135_n {p : Program} {l : Launch} {e : Env} {s : State} {m : MethodId} {args : Array Value} {below : List Frame} {meth : Method} {c : Code} {D : va_G} {tc : Nat → ClassId} {b0 : Nat} {G : Lay} {Qx : Int32 → Mem → Prop} {l0 : Nat} {l1 : Nat} {l2 : Nat} (C : Cx p s m args meth c cX9_gather RX9 7 D tc b0) (hr : meth.sig.returnType = (some FieldType.int)) (n : Nat) : ∀ (l4 : Int32) (l5 : Int32) (σ : Mem) (H : Heap) (locs : List Loc) (ls : Array Slot), va_S (AA b0) s.heap H locs → Wd G D tc b0 σ H → hL b0 ls 7 [some (.inr (.inr l0)), some (.inr (.inr l1)), some (.inr (.inr l2)), none, some (.inl l4), some (.inl l5), none] → Lp (X_X9_gather_135_s G Qx l0 l1 l2) n (l4, l5, σ) → W p l e rm_X9_gather s m args below meth c H locs 0 0 (MQ below (va_Qi Qx (fun u t => Pw G D tc b0 u t) (AA b0)) args s 0 0 (AA b0)) (F0 m 135 ls []) := by
  have hx := C.1
  have hb := C.2.1
  induction n with
  | zero => intro l4 l5 σ H locs ls hS hW hl h; exact False.elim h
  | succ n hK135 =>
    intro l4 l5 σ H locs ls hS hW hl h
    replace h : X_X9_gather_135_s G Qx l0 l1 l2 (Lp (X_X9_gather_135_s G Qx l0 l1 l2) n) (l4, l5, σ) := h
    unfold X_X9_gather_135_s at h
    refine x_iload C hl dX9_gather_135 rfl ?_
    refine x_aload_n C hl dX9_gather_137 rfl ?_
    have t1 := h.1
    replace h := h.2
    refine x_get C hW (t := 9) (k := 5) t1 kl_9 (by decide) fl_X9_35 (v := .int (mI σ l0 5)) rfl dX9_gather_138 ?_
    refine lv_icmp_ge hx hb dX9_gather_141 (tgt := 220) rfl (fun hc => ?_) (fun hc => ?_)
    · replace h := h.1 hc
      refine x_iload C hl dX9_gather_220 rfl ?_
      exact r_i C hr hW hS h dX9_gather_222
    · replace h := h.2 hc
      refine x_aload_n C hl dX9_gather_144 rfl ?_
      refine x_get C hW (t := 9) (k := 1) t1 kl_9 (by decide) fl_X9_11 (v := rv b0 (mR σ l0 1)) rfl dX9_gather_145 ?_
      refine x_iload C hl dX9_gather_148 rfl ?_
      have t2 := h.1
      replace h := h.2
      have v3 := h.1
      replace h := h.2
      refine x_aald C hW (t := 105) (t0 := 6) t2 (by decide) rfl v3 dX9_gather_150 ?_
      refine x_astore C hl dX9_gather_151 (by decide) rfl (fun ls hl => ?_)
      refine x_aload C hl dX9_gather_153 rfl ?_
      have t4 := h.1
      replace h := h.2
      refine y_i (x_run (As := []) C hW hS (T_X7_isLive l (mR σ (mR σ l0 1) l5.toNatClampNeg) σ _ h) t4 kl_7 (CW.of yv_X7_isLive ml_X9_93) ⟨rfl, rfl, ⟨by decide, by decide⟩, by decide, by decide⟩ rfl hl.1 rfl (by decide) dX9_gather_155) hS (fun w6 s5 H locs h hW hS => ?_)
      refine lv_if_eq hx hb dX9_gather_158 (tgt := 214) rfl (fun hc => ?_) (fun hc => ?_)
      · replace h := h.1 hc
        exact t_X9_gather_214 C hr hK135 hS hW (hl.keep [true, true, true, false, true, true, false] rfl) h
      · replace h := h.2 hc
        refine x_aload_n C hl dX9_gather_161 rfl ?_
        refine x_get C hW (t := 9) (k := 0) t1 kl_9 (by decide) fl_X9_24 (v := rv b0 (mR s5 l0 0)) rfl dX9_gather_162 ?_
        have t7 := h.1
        replace h := h.2
        refine x_get C hW (t := 5) (k := 0) t7 kl_5 (by decide) fl_X9_97 (v := rv b0 (mR s5 (mR s5 l0 0) 0)) rfl dX9_gather_165 ?_
        refine x_aload C hl dX9_gather_168 rfl ?_
        refine x_get C hW (t := 7) (k := 4) t4 kl_7 (by decide) fl_X9_78 (v := .int (mI s5 (mR σ (mR σ l0 1) l5.toNatClampNeg) 4)) rfl dX9_gather_170 ?_
        refine x_aload_n C hl dX9_gather_173 rfl ?_
        have t8 := h.1
        replace h := h.2
        refine x_get C hW (t := 2) (k := 8) t8 kl_2 (by decide) fl_X9_111 (v := .int (mI s5 l2 8)) rfl dX9_gather_174 ?_
        have t9 := h.1
        replace h := h.2
        refine y_i (x_run (As := [.int (mI s5 (mR σ (mR σ l0 1) l5.toNatClampNeg) 4), .int (mI s5 l2 8)]) C hW hS (T_X6_isOf l (mR s5 (mR s5 l0 0) 0) (mI s5 (mR σ (mR σ l0 1) l5.toNatClampNeg) 4) (mI s5 l2 8) s5 _ h) t9 kl_6 (CW.of yv_X6_isOf ml_X9_101) ⟨rfl, rfl, ⟨by decide, by decide⟩, by decide, by decide⟩ rfl hl.1 rfl (by decide) dX9_gather_177) hS (fun w11 s10 H locs h hW hS => ?_)
        refine lv_if_eq hx hb dX9_gather_180 (tgt := 214) rfl (fun hc => ?_) (fun hc => ?_)
        · replace h := h.1 hc
          exact t_X9_gather_214 C hr hK135 hS hW (hl.keep [true, true, true, false, true, true, false] rfl) h
        · replace h := h.2 hc
          refine x_aload C hl dX9_gather_183 rfl ?_
          refine x_get C hW (t := 7) (k := 6) t4 kl_7 (by decide) fl_X9_80 (v := rv b0 (mR s10 (mR σ (mR σ l0 1) l5.toNatClampNeg) 6)) rfl dX9_gather_185 ?_
          refine x_aload_n C hl dX9_gather_188 rfl ?_
          refine x_get C hW (t := 2) (k := 11) t8 kl_2 (by decide) fl_X9_126 (v := .int (mI s10 l2 11)) rfl dX9_gather_189 ?_
          have t12 := h.1
          replace h := h.2
          have v13 := h.1
          replace h := h.2
          refine x_iald C hW t12 v13 dX9_gather_192 ?_
          refine x_aload_n C hl dX9_gather_193 rfl ?_
          have t14 := h.1
          replace h := h.2
          refine x_get C hW (t := 7) (k := 3) t14 kl_7 (by decide) fl_X9_42 (v := .int (mI s10 l1 3)) rfl dX9_gather_194 ?_
          refine lv_icmp_ne hx hb dX9_gather_197 (tgt := 214) rfl (fun hc => ?_) (fun hc => ?_)
          · replace h := h.2 hc
            exact t_X9_gather_214 C hr hK135 hS hW (hl.keep [true, true, true, false, true, true, false] rfl) h
          · replace h := h.1 hc
            refine x_aload_n C hl dX9_gather_200 rfl ?_
            refine x_aload C hl dX9_gather_201 rfl ?_
            refine x_get C hW (t := 7) (k := 3) t4 kl_7 (by decide) fl_X9_42 (v := .int (mI s10 (mR σ (mR σ l0 1) l5.toNatClampNeg) 3)) rfl dX9_gather_203 ?_
            refine x_iload C hl dX9_gather_206 rfl ?_
            refine y_v (x_run (As := [.int (mI s10 (mR σ (mR σ l0 1) l5.toNatClampNeg) 3), .int l4]) C hW hS (T_X9_enlist l l0 (mI s10 (mR σ (mR σ l0 1) l5.toNatClampNeg) 3) l4 s10 _ h) t1 kl_9 (CW.of yv_X9_enlist ml_X9_137) ⟨rfl, rfl, ⟨by decide, by decide⟩, by decide, by decide⟩ rfl hl.1 rfl (by decide) dX9_gather_208) hS (fun s15 H locs h hW hS => ?_)
            refine x_iinc C hl dX9_gather_211 rfl (v := (1 : Int32)) (by decide) (by decide) rfl (fun ls hl => ?_)
            exact t_X9_gather_214 C hr hK135 hS hW (hl.keep [true, true, true, false, true, true, false] rfl) h
set_option maxRecDepth 20000 in
set_option maxHeartbeats 4000000 in
theorem t_X9_gather_135 {p : Program} {l : Launch} {e : Env} {s : State} {m : MethodId} {args : Array Value} {below : List Frame} {meth : Method} {c : Code} {H : Heap} {locs : List Loc} {D : va_G} {tc : Nat → ClassId} {b0 : Nat} {ls : Array Slot} {G : Lay} {Qx : Int32 → Mem → Prop} {l0 : Nat} {l1 : Nat} {l2 : Nat} {l4 : Int32} {l5 : Int32}  {σ : Mem} (C : Cx p s m args meth c cX9_gather RX9 7 D tc b0) (hr : meth.sig.returnType = (some FieldType.int)) (hS : va_S (AA b0) s.heap H locs) (hW : Wd G D tc b0 σ H) (hl : hL b0 ls 7 [some (.inr (.inr l0)), some (.inr (.inr l1)), some (.inr (.inr l2)), none, some (.inl l4), some (.inl l5), none]) (h : X_X9_gather_135 G Qx l0 l1 l2 l4 l5 σ) : W p l e rm_X9_gather s m args below meth c H locs 0 0 (MQ below (va_Qi Qx (fun u t => Pw G D tc b0 u t) (AA b0)) args s 0 0 (AA b0)) (F0 m 135 ls []) := by
  obtain ⟨n, h⟩ := h
  exact t_X9_gather_135_n C hr n l4 l5 σ H locs ls hS hW hl h
set_option maxRecDepth 20000 in
set_option maxHeartbeats 4000000 in
theorem t_X9_gather_28_n {p : Program} {l : Launch} {e : Env} {s : State} {m : MethodId} {args : Array Value} {below : List Frame} {meth : Method} {c : Code} {D : va_G} {tc : Nat → ClassId} {b0 : Nat} {G : Lay} {Qx : Int32 → Mem → Prop} {l0 : Nat} {l1 : Nat} {l2 : Nat} {l3 : Int32} (C : Cx p s m args meth c cX9_gather RX9 7 D tc b0) (hr : meth.sig.returnType = (some FieldType.int)) (n : Nat) : ∀ (l4 : Int32) (l5 : Int32) (σ : Mem) (H : Heap) (locs : List Loc) (ls : Array Slot), va_S (AA b0) s.heap H locs → Wd G D tc b0 σ H → hL b0 ls 7 [some (.inr (.inr l0)), some (.inr (.inr l1)), some (.inr (.inr l2)), some (.inl l3), some (.inl l4), some (.inl l5), none] → Lp (X_X9_gather_28_s G Qx l0 l1 l2 l3) n (l4, l5, σ) → W p l e rm_X9_gather s m args below meth c H locs 0 0 (MQ below (va_Qi Qx (fun u t => Pw G D tc b0 u t) (AA b0)) args s 0 0 (AA b0)) (F0 m 28 ls []) := by
  have hx := C.1
  have hb := C.2.1
  induction n with
  | zero => intro l4 l5 σ H locs ls hS hW hl h; exact False.elim h
  | succ n hK28 =>
    intro l4 l5 σ H locs ls hS hW hl h
    replace h : X_X9_gather_28_s G Qx l0 l1 l2 l3 (Lp (X_X9_gather_28_s G Qx l0 l1 l2 l3) n) (l4, l5, σ) := h
    unfold X_X9_gather_28_s at h
    refine x_iload C hl dX9_gather_28 rfl ?_
    refine x_aload_n C hl dX9_gather_30 rfl ?_
    have t1 := h.1
    replace h := h.2
    refine x_get C hW (t := 9) (k := 0) t1 kl_9 (by decide) fl_X9_24 (v := rv b0 (mR σ l0 0)) rfl dX9_gather_31 ?_
    refine x_iload_n C hl dX9_gather_34 rfl ?_
    have t2 := h.1
    replace h := h.2
    refine y_i (x_run (As := [.int l3]) C hW hS (T_X5_endOf l (mR σ l0 0) l3 σ _ h) t2 kl_5 (CW.of yv_X5_endOf ml_X9_123) ⟨rfl, rfl, ⟨by decide, by decide⟩, by decide, by decide⟩ rfl hl.1 rfl (by simp [rv_cat, cat_i, cat_l]) dX9_gather_35) hS (fun w4 s3 H locs h hW hS => ?_)
    refine lv_icmp_ge hx hb dX9_gather_38 (tgt := 132) rfl (fun hc => ?_) (fun hc => ?_)
    · replace h := h.1 hc
      refine lv_iconst (v := (0 : Int32)) hx hb dX9_gather_132 (by decide) ?_
      refine x_istore C hl dX9_gather_133 (by decide) rfl (fun ls hl => ?_)
      exact t_X9_gather_135 C hr hS hW (hl.keep [true, true, true, false, true, true, false] rfl) h
    · replace h := h.2 hc
      refine x_aload_n C hl dX9_gather_41 rfl ?_
      refine x_get C hW (t := 9) (k := 0) t1 kl_9 (by decide) fl_X9_24 (v := rv b0 (mR s3 l0 0)) rfl dX9_gather_42 ?_
      have t5 := h.1
      replace h := h.2
      refine x_get C hW (t := 5) (k := 0) t5 kl_5 (by decide) fl_X9_97 (v := rv b0 (mR s3 (mR s3 l0 0) 0)) rfl dX9_gather_45 ?_
      refine x_aload_n C hl dX9_gather_48 rfl ?_
      refine x_get C hW (t := 9) (k := 0) t1 kl_9 (by decide) fl_X9_24 (v := rv b0 (mR s3 l0 0)) rfl dX9_gather_49 ?_
      refine x_get C hW (t := 5) (k := 3) t5 kl_5 (by decide) fl_X9_75 (v := rv b0 (mR s3 (mR s3 l0 0) 3)) rfl dX9_gather_52 ?_
      refine x_iload C hl dX9_gather_55 rfl ?_
      have t6 := h.1
      replace h := h.2
      have v7 := h.1
      replace h := h.2
      refine x_iald C hW t6 v7 dX9_gather_57 ?_
      refine x_aload_n C hl dX9_gather_58 rfl ?_
      have t8 := h.1
      replace h := h.2
      refine x_get C hW (t := 2) (k := 8) t8 kl_2 (by decide) fl_X9_111 (v := .int (mI s3 l2 8)) rfl dX9_gather_59 ?_
      have t9 := h.1
      replace h := h.2
      refine y_i (x_run (As := [.int (mI s3 (mR s3 (mR s3 l0 0) 3) l5.toNatClampNeg), .int (mI s3 l2 8)]) C hW hS (T_X6_isOf l (mR s3 (mR s3 l0 0) 0) (mI s3 (mR s3 (mR s3 l0 0) 3) l5.toNatClampNeg) (mI s3 l2 8) s3 _ h) t9 kl_6 (CW.of yv_X6_isOf ml_X9_101) ⟨rfl, rfl, ⟨by decide, by decide⟩, by decide, by decide⟩ rfl hl.1 rfl (by decide) dX9_gather_62) hS (fun w11 s10 H locs h hW hS => ?_)
      refine lv_if_eq hx hb dX9_gather_65 (tgt := 126) rfl (fun hc => ?_) (fun hc => ?_)
      · replace h := h.1 hc
        exact t_X9_gather_126 C hr hK28 hS hW (hl.keep [true, true, true, true, true, true, false] rfl) h
      · replace h := h.2 hc
        refine x_aload_n C hl dX9_gather_68 rfl ?_
        refine x_get C hW (t := 9) (k := 0) t1 kl_9 (by decide) fl_X9_24 (v := rv b0 (mR s10 l0 0)) rfl dX9_gather_69 ?_
        refine x_iload C hl dX9_gather_72 rfl ?_
        refine x_aload_n C hl dX9_gather_74 rfl ?_
        refine x_get C hW (t := 2) (k := 11) t8 kl_2 (by decide) fl_X9_126 (v := .int (mI s10 l2 11)) rfl dX9_gather_75 ?_
        have t12 := h.1
        replace h := h.2
        refine y_i (x_run (As := [.int l5, .int (mI s10 l2 11)]) C hW hS (T_X5_get l (mR s10 l0 0) l5 (mI s10 l2 11) s10 _ h) t12 kl_5 (CW.of yv_X5_get ml_X9_129) ⟨rfl, rfl, ⟨by decide, by decide⟩, by decide, by decide⟩ rfl hl.1 rfl (by decide) dX9_gather_78) hS (fun w14 s13 H locs h hW hS => ?_)
        refine x_aload_n C hl dX9_gather_81 rfl ?_
        have t15 := h.1
        replace h := h.2
        refine x_get C hW (t := 7) (k := 3) t15 kl_7 (by decide) fl_X9_42 (v := .int (mI s13 l1 3)) rfl dX9_gather_82 ?_
        refine lv_icmp_ne hx hb dX9_gather_85 (tgt := 126) rfl (fun hc => ?_) (fun hc => ?_)
        · replace h := h.2 hc
          exact t_X9_gather_126 C hr hK28 hS hW (hl.keep [true, true, true, true, true, true, false] rfl) h
        · replace h := h.1 hc
          refine x_aload_n C hl dX9_gather_88 rfl ?_
          refine x_iload_n C hl dX9_gather_89 rfl ?_
          refine x_aload_n C hl dX9_gather_90 rfl ?_
          refine x_get C hW (t := 9) (k := 0) t1 kl_9 (by decide) fl_X9_24 (v := rv b0 (mR s13 l0 0)) rfl dX9_gather_91 ?_
          have t16 := h.1
          replace h := h.2
          refine x_get C hW (t := 5) (k := 2) t16 kl_5 (by decide) fl_X9_132 (v := rv b0 (mR s13 (mR s13 l0 0) 2)) rfl dX9_gather_94 ?_
          refine x_iload C hl dX9_gather_97 rfl ?_
          have t17 := h.1
          replace h := h.2
          have v18 := h.1
          replace h := h.2
          refine x_iald C hW t17 v18 dX9_gather_99 ?_
          refine y_i (x_run (As := [.int l3, .int (mI s13 (mR s13 (mR s13 l0 0) 2) l5.toNatClampNeg)]) C hW hS (T_X9_isToldByRow l l0 l3 (mI s13 (mR s13 (mR s13 l0 0) 2) l5.toNatClampNeg) s13 _ h) t1 kl_9 (CW.of yv_X9_isToldByRow ml_X9_134) ⟨rfl, rfl, ⟨by decide, by decide⟩, by decide, by decide⟩ rfl hl.1 rfl (by decide) dX9_gather_100) hS (fun w20 s19 H locs h hW hS => ?_)
          refine lv_if_eq hx hb dX9_gather_103 (tgt := 126) rfl (fun hc => ?_) (fun hc => ?_)
          · replace h := h.1 hc
            exact t_X9_gather_126 C hr hK28 hS hW (hl.keep [true, true, true, true, true, true, false] rfl) h
          · replace h := h.2 hc
            refine x_aload_n C hl dX9_gather_106 rfl ?_
            refine x_get C hW (t := 9) (k := 3) t1 kl_9 (by decide) fl_X9_20 (v := rv b0 (mR s19 l0 3)) rfl dX9_gather_107 ?_
            refine x_iload C hl dX9_gather_110 rfl ?_
            refine x_aload_n C hl dX9_gather_112 rfl ?_
            refine x_get C hW (t := 9) (k := 0) t1 kl_9 (by decide) fl_X9_24 (v := rv b0 (mR s19 l0 0)) rfl dX9_gather_113 ?_
            have t21 := h.1
            replace h := h.2
            refine x_get C hW (t := 5) (k := 2) t21 kl_5 (by decide) fl_X9_132 (v := rv b0 (mR s19 (mR s19 l0 0) 2)) rfl dX9_gather_116 ?_
            refine x_iload C hl dX9_gather_119 rfl ?_
            have t22 := h.1
            replace h := h.2
            have v23 := h.1
            replace h := h.2
            refine x_iald C hW t22 v23 dX9_gather_121 ?_
            have t24 := h.1
            replace h := h.2
            have v25 := h.1
            replace h := h.2
            refine x_iast C hW hS t24 v25 dX9_gather_122 (fun H locs hW hS => ?_)
            obtain ⟨s26, e_s26⟩ : ∃ z : Mem, z = (sI s19 (mR s19 l0 3) l4.toNatClampNeg (mI s19 (mR s19 (mR s19 l0 0) 2) l5.toNatClampNeg)) := ⟨_, rfl⟩
            replace h := h s26 e_s26
            replace hW : Wd G D tc b0 s26 H := by rw [e_s26]; exact hW
            refine x_iinc C hl dX9_gather_123 rfl (v := (1 : Int32)) (by decide) (by decide) rfl (fun ls hl => ?_)
            exact t_X9_gather_126 C hr hK28 hS hW (hl.keep [true, true, true, true, true, true, false] rfl) h
set_option maxRecDepth 20000 in
set_option maxHeartbeats 4000000 in
theorem t_X9_gather_28 {p : Program} {l : Launch} {e : Env} {s : State} {m : MethodId} {args : Array Value} {below : List Frame} {meth : Method} {c : Code} {H : Heap} {locs : List Loc} {D : va_G} {tc : Nat → ClassId} {b0 : Nat} {ls : Array Slot} {G : Lay} {Qx : Int32 → Mem → Prop} {l0 : Nat} {l1 : Nat} {l2 : Nat} {l3 : Int32} {l4 : Int32} {l5 : Int32}  {σ : Mem} (C : Cx p s m args meth c cX9_gather RX9 7 D tc b0) (hr : meth.sig.returnType = (some FieldType.int)) (hS : va_S (AA b0) s.heap H locs) (hW : Wd G D tc b0 σ H) (hl : hL b0 ls 7 [some (.inr (.inr l0)), some (.inr (.inr l1)), some (.inr (.inr l2)), some (.inl l3), some (.inl l4), some (.inl l5), none]) (h : X_X9_gather_28 G Qx l0 l1 l2 l3 l4 l5 σ) : W p l e rm_X9_gather s m args below meth c H locs 0 0 (MQ below (va_Qi Qx (fun u t => Pw G D tc b0 u t) (AA b0)) args s 0 0 (AA b0)) (F0 m 28 ls []) := by
  obtain ⟨n, h⟩ := h
  exact t_X9_gather_28_n C hr n l4 l5 σ H locs ls hS hW hl h
set_option maxRecDepth 20000 in
set_option maxHeartbeats 4000000 in
theorem t_X9_gather_0 {p : Program} {l : Launch} {e : Env} {s : State} {m : MethodId} {args : Array Value} {below : List Frame} {meth : Method} {c : Code} {H : Heap} {locs : List Loc} {D : va_G} {tc : Nat → ClassId} {b0 : Nat} {ls : Array Slot} {G : Lay} {Qx : Int32 → Mem → Prop} {l0 : Nat} {l1 : Nat} {l2 : Nat}  {σ : Mem} (C : Cx p s m args meth c cX9_gather RX9 7 D tc b0) (hr : meth.sig.returnType = (some FieldType.int)) (hS : va_S (AA b0) s.heap H locs) (hW : Wd G D tc b0 σ H) (hl : hL b0 ls 7 [some (.inr (.inr l0)), some (.inr (.inr l1)), some (.inr (.inr l2)), none, none, none, none]) (h : X_X9_gather_0 G Qx l0 l1 l2  σ) : W p l e rm_X9_gather s m args below meth c H locs 0 0 (MQ below (va_Qi Qx (fun u t => Pw G D tc b0 u t) (AA b0)) args s 0 0 (AA b0)) (F0 m 0 ls []) := by
  have hx := C.1
  have hb := C.2.1
  unfold X_X9_gather_0 at h
  refine x_aload_n C hl dX9_gather_0 rfl ?_
  have t1 := h.1
  replace h := h.2
  refine x_get C hW (t := 9) (k := 0) t1 kl_9 (by decide) fl_X9_24 (v := rv b0 (mR σ l0 0)) rfl dX9_gather_1 ?_
  have t2 := h.1
  replace h := h.2
  refine x_get C hW (t := 5) (k := 0) t2 kl_5 (by decide) fl_X9_97 (v := rv b0 (mR σ (mR σ l0 0) 0)) rfl dX9_gather_4 ?_
  refine x_aload_n C hl dX9_gather_7 rfl ?_
  have t3 := h.1
  replace h := h.2
  refine x_get C hW (t := 2) (k := 8) t3 kl_2 (by decide) fl_X9_111 (v := .int (mI σ l2 8)) rfl dX9_gather_8 ?_
  have t4 := h.1
  replace h := h.2
  refine y_i (x_run (As := [.int (mI σ l2 8)]) C hW hS (T_X6_rootOf l (mR σ (mR σ l0 0) 0) (mI σ l2 8) σ _ h) t4 kl_6 (CW.of yv_X6_rootOf ml_X9_116) ⟨rfl, rfl, ⟨by decide, by decide⟩, by decide, by decide⟩ rfl hl.1 rfl (by decide) dX9_gather_11) hS (fun w6 s5 H locs h hW hS => ?_)
  refine x_istore_n C hl dX9_gather_14 (by decide) rfl (fun ls hl => ?_)
  refine lv_iconst (v := (0 : Int32)) hx hb dX9_gather_15 (by decide) ?_
  refine x_istore C hl dX9_gather_16 (by decide) rfl (fun ls hl => ?_)
  refine x_aload_n C hl dX9_gather_18 rfl ?_
  refine x_get C hW (t := 9) (k := 0) t1 kl_9 (by decide) fl_X9_24 (v := rv b0 (mR s5 l0 0)) rfl dX9_gather_19 ?_
  refine x_iload_n C hl dX9_gather_22 rfl ?_
  have t7 := h.1
  replace h := h.2
  refine y_i (x_run (As := [.int w6]) C hW hS (T_X5_firstOf l (mR s5 l0 0) w6 s5 _ h) t7 kl_5 (CW.of yv_X5_firstOf ml_X9_120) ⟨rfl, rfl, ⟨by decide, by decide⟩, by decide, by decide⟩ rfl hl.1 rfl (by decide) dX9_gather_23) hS (fun w9 s8 H locs h hW hS => ?_)
  refine x_istore C hl dX9_gather_26 (by decide) rfl (fun ls hl => ?_)
  exact t_X9_gather_28 C hr hS hW (hl.keep [true, true, true, true, true, true, false] rfl) h
theorem T_X9_gather (l : Launch) {G : Lay} {D : va_G} {tc : Nat → ClassId} {b0 : Nat} (l0 : Nat) (l1 : Nat) (l2 : Nat) (σ : Mem) (Qx : Int32 → Mem → Prop) (h : X_X9_gather G Qx l0 l1 l2 σ) : MI l yX9_gather cX9_gather 7 ((some FieldType.int)) rm_X9_gather G D tc b0 [rv b0 l0, rv b0 l1, rv b0 l2] σ Qx :=
  x_entry (y := yX9_gather) [.inr (.inr l0), .inr (.inr l1), .inr (.inr l2)] 4 (by decide) (Nat.le_of_ble_eq_true rfl) (fun p e s m args below meth c ls C hr hW hl => t_X9_gather_0 C hr va_S.rf hW (hl.keep [true, true, true, false, false, false, false] rfl) h)
/-! X9_joinDropRow -/
set_option maxRecDepth 20000 in
set_option maxHeartbeats 4000000 in
theorem t_X9_joinDropRow_41 {p : Program} {l : Launch} {e : Env} {s : State} {m : MethodId} {args : Array Value} {below : List Frame} {meth : Method} {c : Code} {H : Heap} {locs : List Loc} {D : va_G} {tc : Nat → ClassId} {b0 : Nat} {ls : Array Slot} {G : Lay} {Qx : Mem → Prop}   {σ : Mem} (C : Cx p s m args meth c cX9_joinDropRow RX9 2 D tc b0) (hr : meth.sig.returnType = (none : Option FieldType)) (hS : va_S (AA b0) s.heap H locs) (hW : Wd G D tc b0 σ H) (hl : hL b0 ls 2 [none, none]) (h : X_X9_joinDropRow_41 G Qx   σ) : W p l e rm_X9_joinDropRow s m args below meth c H locs 0 0 (MQ below (va_Qv Qx (fun u t => Pw G D tc b0 u t) (AA b0)) args s 0 0 (AA b0)) (F0 m 41 ls []) := by
  have hx := C.1
  have hb := C.2.1
  unfold X_X9_joinDropRow_41 at h
  exact r_v C hr hW hS h dX9_joinDropRow_41
set_option maxRecDepth 20000 in
set_option maxHeartbeats 4000000 in
theorem t_X9_joinDropRow_0 {p : Program} {l : Launch} {e : Env} {s : State} {m : MethodId} {args : Array Value} {below : List Frame} {meth : Method} {c : Code} {H : Heap} {locs : List Loc} {D : va_G} {tc : Nat → ClassId} {b0 : Nat} {ls : Array Slot} {G : Lay} {Qx : Mem → Prop} {l0 : Nat} {l1 : Nat}  {σ : Mem} (C : Cx p s m args meth c cX9_joinDropRow RX9 2 D tc b0) (hr : meth.sig.returnType = (none : Option FieldType)) (hS : va_S (AA b0) s.heap H locs) (hW : Wd G D tc b0 σ H) (hl : hL b0 ls 2 [some (.inr (.inr l0)), some (.inr (.inr l1))]) (h : X_X9_joinDropRow_0 G Qx l0 l1  σ) : W p l e rm_X9_joinDropRow s m args below meth c H locs 0 0 (MQ below (va_Qv Qx (fun u t => Pw G D tc b0 u t) (AA b0)) args s 0 0 (AA b0)) (F0 m 0 ls []) := by
  have hx := C.1
  have hb := C.2.1
  unfold X_X9_joinDropRow_0 at h
  refine x_aload_n C hl dX9_joinDropRow_0 rfl ?_
  have t1 := h.1
  replace h := h.2
  refine x_get C hW (t := 7) (k := 8) t1 kl_7 (by decide) fl_X9_141 (v := .int (mI σ l1 8)) rfl dX9_joinDropRow_1 ?_
  refine lv_if_ne hx hb dX9_joinDropRow_4 (tgt := 41) rfl (fun hc => ?_) (fun hc => ?_)
  · replace h := h.2 hc
    exact t_X9_joinDropRow_41 C hr hS hW (hl.keep [false, false] rfl) h
  · replace h := h.1 hc
    refine x_aload_n C hl dX9_joinDropRow_7 rfl ?_
    have t2 := h.1
    replace h := h.2
    refine x_get C hW (t := 9) (k := 7) t2 kl_9 (by decide) fl_X9_144 (v := .int (mI σ l0 7)) rfl dX9_joinDropRow_8 ?_
    refine lv_bipush (v := (60 : Int32)) hx hb dX9_joinDropRow_11 (by decide) ?_
    refine lv_icmp_ge hx hb dX9_joinDropRow_13 (tgt := 41) rfl (fun hc => ?_) (fun hc => ?_)
    · replace h := h.1 hc
      exact t_X9_joinDropRow_41 C hr hS hW (hl.keep [false, false] rfl) h
    · replace h := h.2 hc
      refine x_aload_n C hl dX9_joinDropRow_16 rfl ?_
      refine lv_iconst (v := (1 : Int32)) hx hb dX9_joinDropRow_17 (by decide) ?_
      have b4 := h.1
      replace h := h.2
      refine x_putI C hW hS (t := 7) (k := 8) t1 kl_7 (by decide) fl_X9_141 rfl rfl (bz_n b4) (bz_f b4) dX9_joinDropRow_18 (fun H locs hW hS => ?_)
      obtain ⟨s3, e_s3⟩ : ∃ z : Mem, z = (sI σ l1 8 (1 : Int32)) := ⟨_, rfl⟩
      replace h := h s3 e_s3
      replace hW : Wd G D tc b0 s3 H := by rw [e_s3]; exact hW
      refine x_aload_n C hl dX9_joinDropRow_21 rfl ?_
      refine x_get C hW (t := 9) (k := 2) t2 kl_9 (by decide) fl_X9_17 (v := rv b0 (mR s3 l0 2)) rfl dX9_joinDropRow_22 ?_
      refine x_aload_n C hl dX9_joinDropRow_25 rfl ?_
      refine x_get C hW (t := 9) (k := 7) t2 kl_9 (by decide) fl_X9_144 (v := .int (mI s3 l0 7)) rfl dX9_joinDropRow_26 ?_
      refine x_aload_n C hl dX9_joinDropRow_29 rfl ?_
      have t5 := h.1
      replace h := h.2
      have v6 := h.1
      replace h := h.2
      refine x_aast C hW hS (t := 105) (t0 := 6) (tv := 7) t5 (by decide) rfl t1 kl_7 v6 dX9_joinDropRow_30 (fun H locs hW hS => ?_)
      obtain ⟨s7, e_s7⟩ : ∃ z : Mem, z = (sR s3 (mR s3 l0 2) (mI s3 l0 7).toNatClampNeg l1) := ⟨_, rfl⟩
      replace h := h s7 e_s7
      replace hW : Wd G D tc b0 s7 H := by rw [e_s7]; exact hW
      refine x_aload_n C hl dX9_joinDropRow_31 rfl ?_
      refine lv_dup hx hb dX9_joinDropRow_32 (rv_cat _ _) ?_
      refine x_get C hW (t := 9) (k := 7) t2 kl_9 (by decide) fl_X9_144 (v := .int (mI s7 l0 7)) rfl dX9_joinDropRow_33 ?_
      refine lv_iconst (v := (1 : Int32)) hx hb dX9_joinDropRow_36 (by decide) ?_
      refine lv_iadd hx hb dX9_joinDropRow_37 ?_
      refine x_putI C hW hS (t := 9) (k := 7) t2 kl_9 (by decide) fl_X9_144 rfl rfl rfl rfl dX9_joinDropRow_38 (fun H locs hW hS => ?_)
      obtain ⟨s8, e_s8⟩ : ∃ z : Mem, z = (sI s7 l0 7 ((mI s7 l0 7) + (1 : Int32))) := ⟨_, rfl⟩
      replace h := h s8 e_s8
      replace hW : Wd G D tc b0 s8 H := by rw [e_s8]; exact hW
      exact t_X9_joinDropRow_41 C hr hS hW (hl.keep [false, false] rfl) h
theorem T_X9_joinDropRow (l : Launch) {G : Lay} {D : va_G} {tc : Nat → ClassId} {b0 : Nat} (l0 : Nat) (l1 : Nat) (σ : Mem) (Qx : Mem → Prop) (h : X_X9_joinDropRow G Qx l0 l1 σ) : MV l yX9_joinDropRow cX9_joinDropRow 2 ((none : Option FieldType)) rm_X9_joinDropRow G D tc b0 [rv b0 l0, rv b0 l1] σ Qx :=
  x_entry (y := yX9_joinDropRow) [.inr (.inr l0), .inr (.inr l1)] 0 (by decide) (Nat.le_of_ble_eq_true rfl) (fun p e s m args below meth c ls C hr hW hl => t_X9_joinDropRow_0 C hr va_S.rf hW (hl.keep [true, true] rfl) h)
/-! X9_followKey -/
set_option maxRecDepth 20000 in
set_option maxHeartbeats 4000000 in
theorem t_X9_followKey_30 {p : Program} {l : Launch} {e : Env} {s : State} {m : MethodId} {args : Array Value} {below : List Frame} {meth : Method} {c : Code} {H : Heap} {locs : List Loc} {D : va_G} {tc : Nat → ClassId} {b0 : Nat} {ls : Array Slot} {G : Lay} {Qx : Int32 → Mem → Prop}   {σ : Mem} (C : Cx p s m args meth c cX9_followKey RX9 4 D tc b0) (hr : meth.sig.returnType = (some FieldType.boolean)) (hS : va_S (AA b0) s.heap H locs) (hW : Wd G D tc b0 σ H) (hl : hL b0 ls 4 [none, none, none, none]) (h : X_X9_followKey_30 G Qx   σ) : W p l e rm_X9_followKey s m args below meth c H locs 0 0 (MQ below (va_Qi Qx (fun u t => Pw G D tc b0 u t) (AA b0)) args s 0 0 (AA b0)) (F0 m 30 ls []) := by
  have hx := C.1
  have hb := C.2.1
  unfold X_X9_followKey_30 at h
  refine lv_iconst (v := (1 : Int32)) hx hb dX9_followKey_30 (by decide) ?_
  exact r_z C hr hW hS h.1 h.2 dX9_followKey_31
set_option maxRecDepth 20000 in
set_option maxHeartbeats 4000000 in
theorem t_X9_followKey_0 {p : Program} {l : Launch} {e : Env} {s : State} {m : MethodId} {args : Array Value} {below : List Frame} {meth : Method} {c : Code} {H : Heap} {locs : List Loc} {D : va_G} {tc : Nat → ClassId} {b0 : Nat} {ls : Array Slot} {G : Lay} {Qx : Int32 → Mem → Prop} {l0 : Nat} {l1 : Int32} {l2 : Int32}  {σ : Mem} (C : Cx p s m args meth c cX9_followKey RX9 4 D tc b0) (hr : meth.sig.returnType = (some FieldType.boolean)) (hS : va_S (AA b0) s.heap H locs) (hW : Wd G D tc b0 σ H) (hl : hL b0 ls 4 [some (.inr (.inr l0)), some (.inl l1), some (.inl l2), none]) (h : X_X9_followKey_0 G Qx l0 l1 l2  σ) : W p l e rm_X9_followKey s m args below meth c H locs 0 0 (MQ below (va_Qi Qx (fun u t => Pw G D tc b0 u t) (AA b0)) args s 0 0 (AA b0)) (F0 m 0 ls []) := by
  have hx := C.1
  have hb := C.2.1
  unfold X_X9_followKey_0 at h
  refine x_aload_n C hl dX9_followKey_0 rfl ?_
  refine x_iload_n C hl dX9_followKey_1 rfl ?_
  refine x_iload_n C hl dX9_followKey_2 rfl ?_
  have t1 := h.1
  replace h := h.2
  refine y_r (x_run (As := [.int l1, .int l2]) C hW hS (T_X9_meet l l0 l1 l2 σ _ h) t1 kl_9 (CW.of yv_X9_meet ml_X9_60) ⟨rfl, rfl, ⟨by decide, by decide⟩, by decide, by decide⟩ rfl hl.1 rfl (by decide) dX9_followKey_3) hS (fun w3 s2 H locs h hW hS => ?_)
  refine x_astore_n C hl dX9_followKey_6 (by decide) rfl (fun ls hl => ?_)
  refine x_aload_n C hl dX9_followKey_7 rfl ?_
  refine x_ifnonnull C dX9_followKey_8 (tgt := 13) rfl (fun hc => ?_) (fun hc => ?_)
  · replace h := h.2 hc
    refine x_aload_n C hl dX9_followKey_13 rfl ?_
    refine x_aload_n C hl dX9_followKey_14 rfl ?_
    refine y_v (x_run (As := [rv b0 w3]) C hW hS (T_X9_loadStand l l0 w3 s2 _ h) t1 kl_9 (CW.of yv_X9_loadStand ml_X9_107) ⟨rfl, rfl, ⟨by decide, by decide⟩, by decide, by decide⟩ rfl hl.1 rfl (by decide) dX9_followKey_15) hS (fun s4 H locs h hW hS => ?_)
    refine x_aload_n C hl dX9_followKey_18 rfl ?_
    have t5 := h.1
    replace h := h.2
    refine y_i (x_run (As := []) C hW hS (T_X7_isLive l w3 s4 _ h) t5 kl_7 (CW.of yv_X7_isLive ml_X9_93) ⟨rfl, rfl, ⟨by decide, by decide⟩, by decide, by decide⟩ rfl hl.1 rfl (by decide) dX9_followKey_19) hS (fun w7 s6 H locs h hW hS => ?_)
    refine lv_if_eq hx hb dX9_followKey_22 (tgt := 30) rfl (fun hc => ?_) (fun hc => ?_)
    · replace h := h.1 hc
      exact t_X9_followKey_30 C hr hS hW (hl.keep [false, false, false, false] rfl) h
    · replace h := h.2 hc
      refine x_aload_n C hl dX9_followKey_25 rfl ?_
      refine x_aload_n C hl dX9_followKey_26 rfl ?_
      refine y_v (x_run (As := [rv b0 w3]) C hW hS (T_X9_joinDropRow l l0 w3 s6 _ h) t1 kl_9 (CW.of yv_X9_joinDropRow ml_X9_147) ⟨rfl, rfl, ⟨by decide, by decide⟩, by decide, by decide⟩ rfl hl.1 rfl (by decide) dX9_followKey_27) hS (fun s8 H locs h hW hS => ?_)
      exact t_X9_followKey_30 C hr hS hW (hl.keep [false, false, false, false] rfl) h
  · replace h := h.1 hc
    refine lv_iconst (v := (0 : Int32)) hx hb dX9_followKey_11 (by decide) ?_
    exact r_z C hr hW hS h.1 h.2 dX9_followKey_12
theorem T_X9_followKey (l : Launch) {G : Lay} {D : va_G} {tc : Nat → ClassId} {b0 : Nat} (l0 : Nat) (l1 : Int32) (l2 : Int32) (σ : Mem) (Qx : Int32 → Mem → Prop) (h : X_X9_followKey G Qx l0 l1 l2 σ) : MI l yX9_followKey cX9_followKey 4 ((some FieldType.boolean)) rm_X9_followKey G D tc b0 [rv b0 l0, .int l1, .int l2] σ Qx :=
  x_entry (y := yX9_followKey) [.inr (.inr l0), .inl l1, .inl l2] 1 (by decide) (Nat.le_of_ble_eq_true rfl) (fun p e s m args below meth c ls C hr hW hl => t_X9_followKey_0 C hr va_S.rf hW (hl.keep [true, true, true, false] rfl) h)
/-! X9_followMember -/
set_option maxRecDepth 20000 in
set_option maxHeartbeats 4000000 in
theorem t_X9_followMember_53 {p : Program} {l : Launch} {e : Env} {s : State} {m : MethodId} {args : Array Value} {below : List Frame} {meth : Method} {c : Code} {H : Heap} {locs : List Loc} {D : va_G} {tc : Nat → ClassId} {b0 : Nat} {ls : Array Slot} {G : Lay} {Qx : Int32 → Mem → Prop}  {k0 : Int32} {σ : Mem} (C : Cx p s m args meth c cX9_followMember RX9 7 D tc b0) (hr : meth.sig.returnType = (some FieldType.boolean)) (hS : va_S (AA b0) s.heap H locs) (hW : Wd G D tc b0 σ H) (hl : hL b0 ls 7 [none, none, none, none, none, none, none]) (h : X_X9_followMember_53 G Qx  k0 σ) : W p l e rm_X9_followMember s m args below meth c H locs 0 0 (MQ below (va_Qi Qx (fun u t => Pw G D tc b0 u t) (AA b0)) args s 0 0 (AA b0)) (F0 m 53 ls [.int k0]) := by
  have hx := C.1
  have hb := C.2.1
  unfold X_X9_followMember_53 at h
  exact r_z C hr hW hS h.1 h.2 dX9_followMember_53
set_option maxRecDepth 20000 in
set_option maxHeartbeats 4000000 in
theorem t_X9_followMember_48 {p : Program} {l : Launch} {e : Env} {s : State} {m : MethodId} {args : Array Value} {below : List Frame} {meth : Method} {c : Code} {H : Heap} {locs : List Loc} {D : va_G} {tc : Nat → ClassId} {b0 : Nat} {ls : Array Slot} {G : Lay} {Qx : Int32 → Mem → Prop}   {σ : Mem} (C : Cx p s m args meth c cX9_followMember RX9 7 D tc b0) (hr : meth.sig.returnType = (some FieldType.boolean)) (hS : va_S (AA b0) s.heap H locs) (hW : Wd G D tc b0 σ H) (hl : hL b0 ls 7 [none, none, none, none, none, none, none]) (h : X_X9_followMember_48 G Qx   σ) : W p l e rm_X9_followMember s m args below meth c H locs 0 0 (MQ below (va_Qi Qx (fun u t => Pw G D tc b0 u t) (AA b0)) args s 0 0 (AA b0)) (F0 m 48 ls []) := by
  have hx := C.1
  have hb := C.2.1
  unfold X_X9_followMember_48 at h
  refine lv_iconst (v := (1 : Int32)) hx hb dX9_followMember_48 (by decide) ?_
  refine lv_goto hx hb dX9_followMember_49 (tgt := 53) rfl ?_
  exact t_X9_followMember_53 C hr hS hW (hl.keep [false, false, false, false, false, false, false] rfl) h
set_option maxRecDepth 20000 in
set_option maxHeartbeats 4000000 in
theorem t_X9_followMember_65_n {p : Program} {l : Launch} {e : Env} {s : State} {m : MethodId} {args : Array Value} {below : List Frame} {meth : Method} {c : Code} {D : va_G} {tc : Nat → ClassId} {b0 : Nat} {G : Lay} {Qx : Int32 → Mem → Prop} {l0 : Nat} {l4 : Int32} {l5 : Int32} (C : Cx p s m args meth c cX9_followMember RX9 7 D tc b0) (hr : meth.sig.returnType = (some FieldType.boolean)) (n : Nat) : ∀ (l6 : Int32) (σ : Mem) (H : Heap) (locs : List Loc) (ls : Array Slot), va_S (AA b0) s.heap H locs → Wd G D tc b0 σ H → hL b0 ls 7 [some (.inr (.inr l0)), none, none, none, some (.inl l4), some (.inl l5), some (.inl l6)] → Lp (X_X9_followMember_65_s G Qx l0 l4 l5) n (l6, σ) → W p l e rm_X9_followMember s m args below meth c H locs 0 0 (MQ below (va_Qi Qx (fun u t => Pw G D tc b0 u t) (AA b0)) args s 0 0 (AA b0)) (F0 m 65 ls []) := by
  have hx := C.1
  have hb := C.2.1
  induction n with
  | zero => intro l6 σ H locs ls hS hW hl h; exact False.elim h
  | succ n hK65 =>
    intro l6 σ H locs ls hS hW hl h
    replace h : X_X9_followMember_65_s G Qx l0 l4 l5 (Lp (X_X9_followMember_65_s G Qx l0 l4 l5) n) (l6, σ) := h
    unfold X_X9_followMember_65_s at h
    refine x_iload C hl dX9_followMember_65 rfl ?_
    refine x_iload C hl dX9_followMember_67 rfl ?_
    refine lv_icmp_ge hx hb dX9_followMember_69 (tgt := 96) rfl (fun hc => ?_) (fun hc => ?_)
    · replace h := h.1 hc
      refine lv_iconst (v := (1 : Int32)) hx hb dX9_followMember_96 (by decide) ?_
      exact r_z C hr hW hS h.1 h.2 dX9_followMember_97
    · replace h := h.2 hc
      refine x_aload_n C hl dX9_followMember_72 rfl ?_
      refine x_iload C hl dX9_followMember_73 rfl ?_
      refine x_aload_n C hl dX9_followMember_75 rfl ?_
      have t1 := h.1
      replace h := h.2
      refine x_get C hW (t := 9) (k := 3) t1 kl_9 (by decide) fl_X9_20 (v := rv b0 (mR σ l0 3)) rfl dX9_followMember_76 ?_
      refine x_iload C hl dX9_followMember_79 rfl ?_
      have t2 := h.1
      replace h := h.2
      have v3 := h.1
      replace h := h.2
      refine x_iald C hW t2 v3 dX9_followMember_81 ?_
      refine y_i (x_run (As := [.int l4, .int (mI σ (mR σ l0 3) l6.toNatClampNeg)]) C hW hS (T_X9_followKey l l0 l4 (mI σ (mR σ l0 3) l6.toNatClampNeg) σ _ h) t1 kl_9 (CW.of yv_X9_followKey ml_X9_177) ⟨rfl, rfl, ⟨by decide, by decide⟩, by decide, by decide⟩ rfl hl.1 rfl (by decide) dX9_followMember_82) hS (fun w5 s4 H locs h hW hS => ?_)
      refine lv_if_ne hx hb dX9_followMember_85 (tgt := 90) rfl (fun hc => ?_) (fun hc => ?_)
      · replace h := h.2 hc
        refine x_iinc C hl dX9_followMember_90 rfl (v := (1 : Int32)) (by decide) (by decide) rfl (fun ls hl => ?_)
        refine lv_goto hx hb dX9_followMember_93 (tgt := 65) rfl ?_
        exact hK65 _ _ _ _ _ hS hW (hl.keep [true, false, false, false, true, true, true] rfl) h
      · replace h := h.1 hc
        refine lv_iconst (v := (0 : Int32)) hx hb dX9_followMember_88 (by decide) ?_
        exact r_z C hr hW hS h.1 h.2 dX9_followMember_89
set_option maxRecDepth 20000 in
set_option maxHeartbeats 4000000 in
theorem t_X9_followMember_65 {p : Program} {l : Launch} {e : Env} {s : State} {m : MethodId} {args : Array Value} {below : List Frame} {meth : Method} {c : Code} {H : Heap} {locs : List Loc} {D : va_G} {tc : Nat → ClassId} {b0 : Nat} {ls : Array Slot} {G : Lay} {Qx : Int32 → Mem → Prop} {l0 : Nat} {l4 : Int32} {l5 : Int32} {l6 : Int32}  {σ : Mem} (C : Cx p s m args meth c cX9_followMember RX9 7 D tc b0) (hr : meth.sig.returnType = (some FieldType.boolean)) (hS : va_S (AA b0) s.heap H locs) (hW : Wd G D tc b0 σ H) (hl : hL b0 ls 7 [some (.inr (.inr l0)), none, none, none, some (.inl l4), some (.inl l5), some (.inl l6)]) (h : X_X9_followMember_65 G Qx l0 l4 l5 l6 σ) : W p l e rm_X9_followMember s m args below meth c H locs 0 0 (MQ below (va_Qi Qx (fun u t => Pw G D tc b0 u t) (AA b0)) args s 0 0 (AA b0)) (F0 m 65 ls []) := by
  obtain ⟨n, h⟩ := h
  exact t_X9_followMember_65_n C hr n l6 σ H locs ls hS hW hl h
set_option maxRecDepth 20000 in
set_option maxHeartbeats 4000000 in
theorem t_X9_followMember_0 {p : Program} {l : Launch} {e : Env} {s : State} {m : MethodId} {args : Array Value} {below : List Frame} {meth : Method} {c : Code} {H : Heap} {locs : List Loc} {D : va_G} {tc : Nat → ClassId} {b0 : Nat} {ls : Array Slot} {G : Lay} {Qx : Int32 → Mem → Prop} {l0 : Nat} {l1 : Nat} {l2 : Nat} {l3 : Int32}  {σ : Mem} (C : Cx p s m args meth c cX9_followMember RX9 7 D tc b0) (hr : meth.sig.returnType = (some FieldType.boolean)) (hS : va_S (AA b0) s.heap H locs) (hW : Wd G D tc b0 σ H) (hl : hL b0 ls 7 [some (.inr (.inr l0)), some (.inr (.inr l1)), some (.inr (.inr l2)), some (.inl l3), none, none, none]) (h : X_X9_followMember_0 G Qx l0 l1 l2 l3  σ) : W p l e rm_X9_followMember s m args below meth c H locs 0 0 (MQ below (va_Qi Qx (fun u t => Pw G D tc b0 u t) (AA b0)) args s 0 0 (AA b0)) (F0 m 0 ls []) := by
  have hx := C.1
  have hb := C.2.1
  unfold X_X9_followMember_0 at h
  refine x_aload_n C hl dX9_followMember_0 rfl ?_
  have t1 := h.1
  replace h := h.2
  refine x_get C hW (t := 9) (k := 0) t1 kl_9 (by decide) fl_X9_24 (v := rv b0 (mR σ l0 0)) rfl dX9_followMember_1 ?_
  have t2 := h.1
  replace h := h.2
  refine x_get C hW (t := 5) (k := 0) t2 kl_5 (by decide) fl_X9_97 (v := rv b0 (mR σ (mR σ l0 0) 0)) rfl dX9_followMember_4 ?_
  refine x_aload_n C hl dX9_followMember_7 rfl ?_
  have t3 := h.1
  replace h := h.2
  refine x_get C hW (t := 2) (k := 8) t3 kl_2 (by decide) fl_X9_111 (v := .int (mI σ l2 8)) rfl dX9_followMember_8 ?_
  have t4 := h.1
  replace h := h.2
  refine y_i (x_run (As := [.int (mI σ l2 8)]) C hW hS (T_X6_rootOf l (mR σ (mR σ l0 0) 0) (mI σ l2 8) σ _ h) t4 kl_6 (CW.of yv_X6_rootOf ml_X9_116) ⟨rfl, rfl, ⟨by decide, by decide⟩, by decide, by decide⟩ rfl hl.1 rfl (by decide) dX9_followMember_11) hS (fun w6 s5 H locs h hW hS => ?_)
  refine x_istore C hl dX9_followMember_14 (by decide) rfl (fun ls hl => ?_)
  refine x_aload_n C hl dX9_followMember_16 rfl ?_
  refine x_get C hW (t := 2) (k := 2) t3 kl_2 (by decide) fl_X9_174 (v := .int (mI s5 l2 2)) rfl dX9_followMember_17 ?_
  refine lv_iconst (v := (4 : Int32)) hx hb dX9_followMember_20 (by decide) ?_
  refine lv_icmp_ne hx hb dX9_followMember_21 (tgt := 54) rfl (fun hc => ?_) (fun hc => ?_)
  · replace h := h.2 hc
    refine x_aload_n C hl dX9_followMember_54 rfl ?_
    refine x_aload_n C hl dX9_followMember_55 rfl ?_
    refine x_aload_n C hl dX9_followMember_56 rfl ?_
    refine y_i (x_run (As := [rv b0 l1, rv b0 l2]) C hW hS (T_X9_gather l l0 l1 l2 s5 _ h) t1 kl_9 (CW.of yv_X9_gather ml_X9_180) ⟨rfl, rfl, ⟨by decide, by decide⟩, by decide, by decide⟩ rfl hl.1 rfl (by decide) dX9_followMember_57) hS (fun w8 s7 H locs h hW hS => ?_)
    refine x_istore C hl dX9_followMember_60 (by decide) rfl (fun ls hl => ?_)
    refine lv_iconst (v := (0 : Int32)) hx hb dX9_followMember_62 (by decide) ?_
    refine x_istore C hl dX9_followMember_63 (by decide) rfl (fun ls hl => ?_)
    exact t_X9_followMember_65 C hr hS hW (hl.keep [true, false, false, false, true, true, true] rfl) h
  · replace h := h.1 hc
    refine x_aload_n C hl dX9_followMember_24 rfl ?_
    have t9 := h.1
    replace h := h.2
    refine x_get C hW (t := 7) (k := 6) t9 kl_7 (by decide) fl_X9_80 (v := rv b0 (mR s5 l1 6)) rfl dX9_followMember_25 ?_
    refine x_iload_n C hl dX9_followMember_28 rfl ?_
    have t10 := h.1
    replace h := h.2
    have v11 := h.1
    replace h := h.2
    refine x_iald C hW t10 v11 dX9_followMember_29 ?_
    refine lv_if_eq hx hb dX9_followMember_30 (tgt := 48) rfl (fun hc => ?_) (fun hc => ?_)
    · replace h := h.1 hc
      exact t_X9_followMember_48 C hr hS hW (hl.keep [false, false, false, false, false, false, false] rfl) h
    · replace h := h.2 hc
      refine x_aload_n C hl dX9_followMember_33 rfl ?_
      refine x_iload C hl dX9_followMember_34 rfl ?_
      refine x_aload_n C hl dX9_followMember_36 rfl ?_
      refine x_get C hW (t := 7) (k := 6) t9 kl_7 (by decide) fl_X9_80 (v := rv b0 (mR s5 l1 6)) rfl dX9_followMember_37 ?_
      refine x_iload_n C hl dX9_followMember_40 rfl ?_
      refine x_iald C hW t10 v11 dX9_followMember_41 ?_
      refine y_i (x_run (As := [.int w6, .int (mI s5 (mR s5 l1 6) l3.toNatClampNeg)]) C hW hS (T_X9_followKey l l0 w6 (mI s5 (mR s5 l1 6) l3.toNatClampNeg) s5 _ h) t1 kl_9 (CW.of yv_X9_followKey ml_X9_177) ⟨rfl, rfl, ⟨by decide, by decide⟩, by decide, by decide⟩ rfl hl.1 rfl (by decide) dX9_followMember_42) hS (fun w13 s12 H locs h hW hS => ?_)
      refine lv_if_eq hx hb dX9_followMember_45 (tgt := 52) rfl (fun hc => ?_) (fun hc => ?_)
      · replace h := h.1 hc
        refine lv_iconst (v := (0 : Int32)) hx hb dX9_followMember_52 (by decide) ?_
        exact t_X9_followMember_53 C hr hS hW (hl.keep [false, false, false, false, false, false, false] rfl) h
      · replace h := h.2 hc
        exact t_X9_followMember_48 C hr hS hW (hl.keep [false, false, false, false, false, false, false] rfl) h
theorem T_X9_followMember (l : Launch) {G : Lay} {D : va_G} {tc : Nat → ClassId} {b0 : Nat} (l0 : Nat) (l1 : Nat) (l2 : Nat) (l3 : Int32) (σ : Mem) (Qx : Int32 → Mem → Prop) (h : X_X9_followMember G Qx l0 l1 l2 l3 σ) : MI l yX9_followMember cX9_followMember 7 ((some FieldType.boolean)) rm_X9_followMember G D tc b0 [rv b0 l0, rv b0 l1, rv b0 l2, .int l3] σ Qx :=
  x_entry (y := yX9_followMember) [.inr (.inr l0), .inr (.inr l1), .inr (.inr l2), .inl l3] 3 (by decide) (Nat.le_of_ble_eq_true rfl) (fun p e s m args below meth c ls C hr hW hl => t_X9_followMember_0 C hr va_S.rf hW (hl.keep [true, true, true, true, false, false, false] rfl) h)
/-! X9_followOwned -/
set_option maxRecDepth 20000 in
set_option maxHeartbeats 4000000 in
theorem t_X9_followOwned_56 {p : Program} {l : Launch} {e : Env} {s : State} {m : MethodId} {args : Array Value} {below : List Frame} {meth : Method} {c : Code} {H : Heap} {locs : List Loc} {D : va_G} {tc : Nat → ClassId} {b0 : Nat} {ls : Array Slot} {G : Lay} {Qx : Int32 → Mem → Prop} {l0 : Nat} {l1 : Nat} {l2 : Nat} {l3 : Int32}  {K18 : Int32 × Mem → Prop} {σ : Mem} (C : Cx p s m args meth c cX9_followOwned RX9 5 D tc b0) (hr : meth.sig.returnType = (some FieldType.boolean)) (hK18 : ∀ (x3 : Int32) (σ : Mem) (H : Heap) (locs : List Loc) (ls : Array Slot), va_S (AA b0) s.heap H locs → Wd G D tc b0 σ H → hL b0 ls 5 [some (.inr (.inr l0)), some (.inr (.inr l1)), some (.inr (.inr l2)), some (.inl x3), none] → K18 (x3, σ) → W p l e rm_X9_followOwned s m args below meth c H locs 0 0 (MQ below (va_Qi Qx (fun u t => Pw G D tc b0 u t) (AA b0)) args s 0 0 (AA b0)) (F0 m 18 ls [])) (hS : va_S (AA b0) s.heap H locs) (hW : Wd G D tc b0 σ H) (hl : hL b0 ls 5 [some (.inr (.inr l0)), some (.inr (.inr l1)), some (.inr (.inr l2)), some (.inl l3), none]) (h : X_X9_followOwned_56 G Qx K18 l0 l1 l2 l3  σ) : W p l e rm_X9_followOwned s m args below meth c H locs 0 0 (MQ below (va_Qi Qx (fun u t => Pw G D tc b0 u t) (AA b0)) args s 0 0 (AA b0)) (F0 m 56 ls []) := by
  have hx := C.1
  have hb := C.2.1
  unfold X_X9_followOwned_56 at h
  refine x_iinc C hl dX9_followOwned_56 rfl (v := (1 : Int32)) (by decide) (by decide) rfl (fun ls hl => ?_)
  refine lv_goto hx hb dX9_followOwned_59 (tgt := 18) rfl ?_
  exact hK18 _ _ _ _ _ hS hW (hl.keep [true, true, true, true, false] rfl) h
set_option maxRecDepth 20000 in
set_option maxHeartbeats 4000000 in
theorem t_X9_followOwned_18_n {p : Program} {l : Launch} {e : Env} {s : State} {m : MethodId} {args : Array Value} {below : List Frame} {meth : Method} {c : Code} {D : va_G} {tc : Nat → ClassId} {b0 : Nat} {G : Lay} {Qx : Int32 → Mem → Prop} {l0 : Nat} {l1 : Nat} {l2 : Nat} (C : Cx p s m args meth c cX9_followOwned RX9 5 D tc b0) (hr : meth.sig.returnType = (some FieldType.boolean)) (n : Nat) : ∀ (l3 : Int32) (σ : Mem) (H : Heap) (locs : List Loc) (ls : Array Slot), va_S (AA b0) s.heap H locs → Wd G D tc b0 σ H → hL b0 ls 5 [some (.inr (.inr l0)), some (.inr (.inr l1)), some (.inr (.inr l2)), some (.inl l3), none] → Lp (X_X9_followOwned_18_s G Qx l0 l1 l2) n (l3, σ) → W p l e rm_X9_followOwned s m args below meth c H locs 0 0 (MQ below (va_Qi Qx (fun u t => Pw G D tc b0 u t) (AA b0)) args s 0 0 (AA b0)) (F0 m 18 ls []) := by
  have hx := C.1
  have hb := C.2.1
  induction n with
  | zero => intro l3 σ H locs ls hS hW hl h; exact False.elim h
  | succ n hK18 =>
    intro l3 σ H locs ls hS hW hl h
    replace h : X_X9_followOwned_18_s G Qx l0 l1 l2 (Lp (X_X9_followOwned_18_s G Qx l0 l1 l2) n) (l3, σ) := h
    unfold X_X9_followOwned_18_s at h
    refine x_iload_n C hl dX9_followOwned_18 rfl ?_
    refine x_aload_n C hl dX9_followOwned_19 rfl ?_
    have t1 := h.1
    replace h := h.2
    refine x_get C hW (t := 1) (k := 4) t1 kl_1 (by decide) fl_X9_157 (v := .int (mI σ l2 4)) rfl dX9_followOwned_20 ?_
    refine lv_icmp_ge hx hb dX9_followOwned_23 (tgt := 62) rfl (fun hc => ?_) (fun hc => ?_)
    · replace h := h.1 hc
      refine lv_iconst (v := (1 : Int32)) hx hb dX9_followOwned_62 (by decide) ?_
      exact r_z C hr hW hS h.1 h.2 dX9_followOwned_63
    · replace h := h.2 hc
      refine x_aload_n C hl dX9_followOwned_26 rfl ?_
      refine x_get C hW (t := 1) (k := 5) t1 kl_1 (by decide) fl_X9_162 (v := rv b0 (mR σ l2 5)) rfl dX9_followOwned_27 ?_
      refine x_iload_n C hl dX9_followOwned_30 rfl ?_
      have t2 := h.1
      replace h := h.2
      have v3 := h.1
      replace h := h.2
      refine x_aald C hW (t := 104) (t0 := 5) t2 (by decide) rfl v3 dX9_followOwned_31 ?_
      refine x_astore C hl dX9_followOwned_32 (by decide) rfl (fun ls hl => ?_)
      refine x_aload C hl dX9_followOwned_34 rfl ?_
      refine lv_iconst (v := (4 : Int32)) hx hb dX9_followOwned_36 (by decide) ?_
      have t4 := h.1
      replace h := h.2
      refine y_i (x_run (As := [.int (4 : Int32)]) C hW hS (T_X2_has l (mR σ (mR σ l2 5) l3.toNatClampNeg) (4 : Int32) σ _ h) t4 kl_2 (CW.of yv_X2_has ml_X9_166) ⟨rfl, rfl, ⟨by decide, by decide⟩, by decide, by decide⟩ rfl hl.1 rfl (by decide) dX9_followOwned_37) hS (fun w6 s5 H locs h hW hS => ?_)
      refine lv_if_eq hx hb dX9_followOwned_40 (tgt := 56) rfl (fun hc => ?_) (fun hc => ?_)
      · replace h := h.1 hc
        exact t_X9_followOwned_56 C hr hK18 hS hW (hl.keep [true, true, true, true, false] rfl) h
      · replace h := h.2 hc
        refine x_aload_n C hl dX9_followOwned_43 rfl ?_
        refine x_aload_n C hl dX9_followOwned_44 rfl ?_
        refine x_aload C hl dX9_followOwned_45 rfl ?_
        refine x_iload_n C hl dX9_followOwned_47 rfl ?_
        have t7 := h.1
        replace h := h.2
        refine y_i (x_run (As := [rv b0 l1, rv b0 (mR σ (mR σ l2 5) l3.toNatClampNeg), .int l3]) C hW hS (T_X9_followMember l l0 l1 (mR σ (mR σ l2 5) l3.toNatClampNeg) l3 s5 _ h) t7 kl_9 (CW.of yv_X9_followMember ml_X9_170) ⟨rfl, rfl, ⟨by decide, by decide⟩, by decide, by decide⟩ rfl hl.1 rfl (by decide) dX9_followOwned_48) hS (fun w9 s8 H locs h hW hS => ?_)
        refine lv_if_ne hx hb dX9_followOwned_51 (tgt := 56) rfl (fun hc => ?_) (fun hc => ?_)
        · replace h := h.2 hc
          exact t_X9_followOwned_56 C hr hK18 hS hW (hl.keep [true, true, true, true, false] rfl) h
        · replace h := h.1 hc
          refine lv_iconst (v := (0 : Int32)) hx hb dX9_followOwned_54 (by decide) ?_
          exact r_z C hr hW hS h.1 h.2 dX9_followOwned_55
set_option maxRecDepth 20000 in
set_option maxHeartbeats 4000000 in
theorem t_X9_followOwned_18 {p : Program} {l : Launch} {e : Env} {s : State} {m : MethodId} {args : Array Value} {below : List Frame} {meth : Method} {c : Code} {H : Heap} {locs : List Loc} {D : va_G} {tc : Nat → ClassId} {b0 : Nat} {ls : Array Slot} {G : Lay} {Qx : Int32 → Mem → Prop} {l0 : Nat} {l1 : Nat} {l2 : Nat} {l3 : Int32}  {σ : Mem} (C : Cx p s m args meth c cX9_followOwned RX9 5 D tc b0) (hr : meth.sig.returnType = (some FieldType.boolean)) (hS : va_S (AA b0) s.heap H locs) (hW : Wd G D tc b0 σ H) (hl : hL b0 ls 5 [some (.inr (.inr l0)), some (.inr (.inr l1)), some (.inr (.inr l2)), some (.inl l3), none]) (h : X_X9_followOwned_18 G Qx l0 l1 l2 l3 σ) : W p l e rm_X9_followOwned s m args below meth c H locs 0 0 (MQ below (va_Qi Qx (fun u t => Pw G D tc b0 u t) (AA b0)) args s 0 0 (AA b0)) (F0 m 18 ls []) := by
  obtain ⟨n, h⟩ := h
  exact t_X9_followOwned_18_n C hr n l3 σ H locs ls hS hW hl h
set_option maxRecDepth 20000 in
set_option maxHeartbeats 4000000 in
theorem t_X9_followOwned_0 {p : Program} {l : Launch} {e : Env} {s : State} {m : MethodId} {args : Array Value} {below : List Frame} {meth : Method} {c : Code} {H : Heap} {locs : List Loc} {D : va_G} {tc : Nat → ClassId} {b0 : Nat} {ls : Array Slot} {G : Lay} {Qx : Int32 → Mem → Prop} {l0 : Nat} {l1 : Nat}  {σ : Mem} (C : Cx p s m args meth c cX9_followOwned RX9 5 D tc b0) (hr : meth.sig.returnType = (some FieldType.boolean)) (hS : va_S (AA b0) s.heap H locs) (hW : Wd G D tc b0 σ H) (hl : hL b0 ls 5 [some (.inr (.inr l0)), some (.inr (.inr l1)), none, none, none]) (h : X_X9_followOwned_0 G Qx l0 l1  σ) : W p l e rm_X9_followOwned s m args below meth c H locs 0 0 (MQ below (va_Qi Qx (fun u t => Pw G D tc b0 u t) (AA b0)) args s 0 0 (AA b0)) (F0 m 0 ls []) := by
  have hx := C.1
  have hb := C.2.1
  unfold X_X9_followOwned_0 at h
  refine x_aload_n C hl dX9_followOwned_0 rfl ?_
  have t1 := h.1
  replace h := h.2
  refine x_get C hW (t := 9) (k := 0) t1 kl_9 (by decide) fl_X9_24 (v := rv b0 (mR σ l0 0)) rfl dX9_followOwned_1 ?_
  have t2 := h.1
  replace h := h.2
  refine x_get C hW (t := 5) (k := 0) t2 kl_5 (by decide) fl_X9_97 (v := rv b0 (mR σ (mR σ l0 0) 0)) rfl dX9_followOwned_4 ?_
  have t3 := h.1
  replace h := h.2
  refine x_get C hW (t := 6) (k := 1) t3 kl_6 (by decide) fl_X9_154 (v := rv b0 (mR σ (mR σ (mR σ l0 0) 0) 1)) rfl dX9_followOwned_7 ?_
  refine x_aload_n C hl dX9_followOwned_10 rfl ?_
  have t4 := h.1
  replace h := h.2
  refine x_get C hW (t := 7) (k := 4) t4 kl_7 (by decide) fl_X9_78 (v := .int (mI σ l1 4)) rfl dX9_followOwned_11 ?_
  have t5 := h.1
  replace h := h.2
  have v6 := h.1
  replace h := h.2
  refine x_aald C hW (t := 103) (t0 := 4) t5 (by decide) rfl v6 dX9_followOwned_14 ?_
  refine x_astore_n C hl dX9_followOwned_15 (by decide) rfl (fun ls hl => ?_)
  refine lv_iconst (v := (0 : Int32)) hx hb dX9_followOwned_16 (by decide) ?_
  refine x_istore_n C hl dX9_followOwned_17 (by decide) rfl (fun ls hl => ?_)
  exact t_X9_followOwned_18 C hr hS hW (hl.keep [true, true, true, true, false] rfl) h
theorem T_X9_followOwned (l : Launch) {G : Lay} {D : va_G} {tc : Nat → ClassId} {b0 : Nat} (l0 : Nat) (l1 : Nat) (σ : Mem) (Qx : Int32 → Mem → Prop) (h : X_X9_followOwned G Qx l0 l1 σ) : MI l yX9_followOwned cX9_followOwned 5 ((some FieldType.boolean)) rm_X9_followOwned G D tc b0 [rv b0 l0, rv b0 l1] σ Qx :=
  x_entry (y := yX9_followOwned) [.inr (.inr l0), .inr (.inr l1)] 3 (by decide) (Nat.le_of_ble_eq_true rfl) (fun p e s m args below meth c ls C hr hW hl => t_X9_followOwned_0 C hr va_S.rf hW (hl.keep [true, true, false, false, false] rfl) h)
/-! X9_dropFrom -/
set_option maxRecDepth 20000 in
set_option maxHeartbeats 4000000 in
theorem t_X9_dropFrom_99 {p : Program} {l : Launch} {e : Env} {s : State} {m : MethodId} {args : Array Value} {below : List Frame} {meth : Method} {c : Code} {H : Heap} {locs : List Loc} {D : va_G} {tc : Nat → ClassId} {b0 : Nat} {ls : Array Slot} {G : Lay} {Qx : Int32 → Mem → Prop} {l0 : Nat} {l2 : Int32} {k0 : Nat} {k1 : Int32} {K70 : Int32 × Mem → Prop} {σ : Mem} (C : Cx p s m args meth c cX9_dropFrom RX9 4 D tc b0) (hr : meth.sig.returnType = (some FieldType.int)) (hK70 : ∀ (x2 : Int32) (σ : Mem) (H : Heap) (locs : List Loc) (ls : Array Slot), va_S (AA b0) s.heap H locs → Wd G D tc b0 σ H → hL b0 ls 4 [some (.inr (.inr l0)), none, some (.inl x2), none] → K70 (x2, σ) → W p l e rm_X9_dropFrom s m args below meth c H locs 0 0 (MQ below (va_Qi Qx (fun u t => Pw G D tc b0 u t) (AA b0)) args s 0 0 (AA b0)) (F0 m 70 ls [])) (hS : va_S (AA b0) s.heap H locs) (hW : Wd G D tc b0 σ H) (hl : hL b0 ls 4 [some (.inr (.inr l0)), none, some (.inl l2), none]) (h : X_X9_dropFrom_99 G Qx K70 l0 l2 k0 k1 σ) : W p l e rm_X9_dropFrom s m args below meth c H locs 0 0 (MQ below (va_Qi Qx (fun u t => Pw G D tc b0 u t) (AA b0)) args s 0 0 (AA b0)) (F0 m 99 ls [.int k1, rv b0 k0]) := by
  have hx := C.1
  have hb := C.2.1
  unfold X_X9_dropFrom_99 at h
  have t1 := h.1
  replace h := h.2
  refine x_putI C hW hS (t := 7) (k := 1) t1 kl_7 (by decide) fl_X9_66 rfl rfl rfl rfl dX9_dropFrom_99 (fun H locs hW hS => ?_)
  obtain ⟨s2, e_s2⟩ : ∃ z : Mem, z = (sI σ k0 1 k1) := ⟨_, rfl⟩
  replace h := h s2 e_s2
  replace hW : Wd G D tc b0 s2 H := by rw [e_s2]; exact hW
  refine x_iinc C hl dX9_dropFrom_102 rfl (v := (1 : Int32)) (by decide) (by decide) rfl (fun ls hl => ?_)
  refine lv_goto hx hb dX9_dropFrom_105 (tgt := 70) rfl ?_
  exact hK70 _ _ _ _ _ hS hW (hl.keep [true, false, true, false] rfl) h
set_option maxRecDepth 20000 in
set_option maxHeartbeats 4000000 in
theorem t_X9_dropFrom_70_n {p : Program} {l : Launch} {e : Env} {s : State} {m : MethodId} {args : Array Value} {below : List Frame} {meth : Method} {c : Code} {D : va_G} {tc : Nat → ClassId} {b0 : Nat} {G : Lay} {Qx : Int32 → Mem → Prop} {l0 : Nat} (C : Cx p s m args meth c cX9_dropFrom RX9 4 D tc b0) (hr : meth.sig.returnType = (some FieldType.int)) (n : Nat) : ∀ (l2 : Int32) (σ : Mem) (H : Heap) (locs : List Loc) (ls : Array Slot), va_S (AA b0) s.heap H locs → Wd G D tc b0 σ H → hL b0 ls 4 [some (.inr (.inr l0)), none, some (.inl l2), none] → Lp (X_X9_dropFrom_70_s G Qx l0) n (l2, σ) → W p l e rm_X9_dropFrom s m args below meth c H locs 0 0 (MQ below (va_Qi Qx (fun u t => Pw G D tc b0 u t) (AA b0)) args s 0 0 (AA b0)) (F0 m 70 ls []) := by
  have hx := C.1
  have hb := C.2.1
  induction n with
  | zero => intro l2 σ H locs ls hS hW hl h; exact False.elim h
  | succ n hK70 =>
    intro l2 σ H locs ls hS hW hl h
    replace h : X_X9_dropFrom_70_s G Qx l0 (Lp (X_X9_dropFrom_70_s G Qx l0) n) (l2, σ) := h
    unfold X_X9_dropFrom_70_s at h
    refine x_iload_n C hl dX9_dropFrom_70 rfl ?_
    refine x_aload_n C hl dX9_dropFrom_71 rfl ?_
    have t1 := h.1
    replace h := h.2
    refine x_get C hW (t := 9) (k := 7) t1 kl_9 (by decide) fl_X9_144 (v := .int (mI σ l0 7)) rfl dX9_dropFrom_72 ?_
    refine lv_icmp_ge hx hb dX9_dropFrom_75 (tgt := 108) rfl (fun hc => ?_) (fun hc => ?_)
    · replace h := h.1 hc
      refine x_aload_n C hl dX9_dropFrom_108 rfl ?_
      refine x_get C hW (t := 9) (k := 7) t1 kl_9 (by decide) fl_X9_144 (v := .int (mI σ l0 7)) rfl dX9_dropFrom_109 ?_
      exact r_i C hr hW hS h dX9_dropFrom_112
    · replace h := h.2 hc
      refine x_aload_n C hl dX9_dropFrom_78 rfl ?_
      refine x_get C hW (t := 9) (k := 2) t1 kl_9 (by decide) fl_X9_17 (v := rv b0 (mR σ l0 2)) rfl dX9_dropFrom_79 ?_
      refine x_iload_n C hl dX9_dropFrom_82 rfl ?_
      have t2 := h.1
      replace h := h.2
      have v3 := h.1
      replace h := h.2
      refine x_aald C hW (t := 105) (t0 := 6) t2 (by decide) rfl v3 dX9_dropFrom_83 ?_
      refine x_astore_n C hl dX9_dropFrom_84 (by decide) rfl (fun ls hl => ?_)
      refine x_aload_n C hl dX9_dropFrom_85 rfl ?_
      refine x_aload_n C hl dX9_dropFrom_86 rfl ?_
      have t4 := h.1
      replace h := h.2
      refine x_get C hW (t := 7) (k := 1) t4 kl_7 (by decide) fl_X9_66 (v := .int (mI σ (mR σ (mR σ l0 2) l2.toNatClampNeg) 1)) rfl dX9_dropFrom_87 ?_
      refine lv_iconst (v := (2 : Int32)) hx hb dX9_dropFrom_90 (by decide) ?_
      refine lv_icmp_ne hx hb dX9_dropFrom_91 (tgt := 98) rfl (fun hc => ?_) (fun hc => ?_)
      · replace h := h.2 hc
        refine lv_iconst (v := (3 : Int32)) hx hb dX9_dropFrom_98 (by decide) ?_
        exact t_X9_dropFrom_99 C hr hK70 hS hW (hl.keep [true, false, true, false] rfl) h
      · replace h := h.1 hc
        refine lv_iconst (v := (4 : Int32)) hx hb dX9_dropFrom_94 (by decide) ?_
        refine lv_goto hx hb dX9_dropFrom_95 (tgt := 99) rfl ?_
        exact t_X9_dropFrom_99 C hr hK70 hS hW (hl.keep [true, false, true, false] rfl) h
set_option maxRecDepth 20000 in
set_option maxHeartbeats 4000000 in
theorem t_X9_dropFrom_70 {p : Program} {l : Launch} {e : Env} {s : State} {m : MethodId} {args : Array Value} {below : List Frame} {meth : Method} {c : Code} {H : Heap} {locs : List Loc} {D : va_G} {tc : Nat → ClassId} {b0 : Nat} {ls : Array Slot} {G : Lay} {Qx : Int32 → Mem → Prop} {l0 : Nat} {l2 : Int32}  {σ : Mem} (C : Cx p s m args meth c cX9_dropFrom RX9 4 D tc b0) (hr : meth.sig.returnType = (some FieldType.int)) (hS : va_S (AA b0) s.heap H locs) (hW : Wd G D tc b0 σ H) (hl : hL b0 ls 4 [some (.inr (.inr l0)), none, some (.inl l2), none]) (h : X_X9_dropFrom_70 G Qx l0 l2 σ) : W p l e rm_X9_dropFrom s m args below meth c H locs 0 0 (MQ below (va_Qi Qx (fun u t => Pw G D tc b0 u t) (AA b0)) args s 0 0 (AA b0)) (F0 m 70 ls []) := by
  obtain ⟨n, h⟩ := h
  exact t_X9_dropFrom_70_n C hr n l2 σ H locs ls hS hW hl h
set_option maxRecDepth 20000 in
set_option maxHeartbeats 4000000 in
theorem t_X9_dropFrom_38_n {p : Program} {l : Launch} {e : Env} {s : State} {m : MethodId} {args : Array Value} {below : List Frame} {meth : Method} {c : Code} {D : va_G} {tc : Nat → ClassId} {b0 : Nat} {G : Lay} {Qx : Int32 → Mem → Prop} {l0 : Nat} (C : Cx p s m args meth c cX9_dropFrom RX9 4 D tc b0) (hr : meth.sig.returnType = (some FieldType.int)) (n : Nat) : ∀ (l2 : Int32) (σ : Mem) (H : Heap) (locs : List Loc) (ls : Array Slot), va_S (AA b0) s.heap H locs → Wd G D tc b0 σ H → hL b0 ls 4 [some (.inr (.inr l0)), none, some (.inl l2), none] → Lp (X_X9_dropFrom_38_s G Qx l0) n (l2, σ) → W p l e rm_X9_dropFrom s m args below meth c H locs 0 0 (MQ below (va_Qi Qx (fun u t => Pw G D tc b0 u t) (AA b0)) args s 0 0 (AA b0)) (F0 m 38 ls []) := by
  have hx := C.1
  have hb := C.2.1
  induction n with
  | zero => intro l2 σ H locs ls hS hW hl h; exact False.elim h
  | succ n hK38 =>
    intro l2 σ H locs ls hS hW hl h
    replace h : X_X9_dropFrom_38_s G Qx l0 (Lp (X_X9_dropFrom_38_s G Qx l0) n) (l2, σ) := h
    unfold X_X9_dropFrom_38_s at h
    refine x_iload_n C hl dX9_dropFrom_38 rfl ?_
    refine x_aload_n C hl dX9_dropFrom_39 rfl ?_
    have t1 := h.1
    replace h := h.2
    refine x_get C hW (t := 9) (k := 7) t1 kl_9 (by decide) fl_X9_144 (v := .int (mI σ l0 7)) rfl dX9_dropFrom_40 ?_
    refine lv_icmp_ge hx hb dX9_dropFrom_43 (tgt := 68) rfl (fun hc => ?_) (fun hc => ?_)
    · replace h := h.1 hc
      refine lv_iconst (v := (0 : Int32)) hx hb dX9_dropFrom_68 (by decide) ?_
      refine x_istore_n C hl dX9_dropFrom_69 (by decide) rfl (fun ls hl => ?_)
      exact t_X9_dropFrom_70 C hr hS hW (hl.keep [true, false, true, false] rfl) h
    · replace h := h.2 hc
      refine x_aload_n C hl dX9_dropFrom_46 rfl ?_
      refine x_aload_n C hl dX9_dropFrom_47 rfl ?_
      refine x_get C hW (t := 9) (k := 2) t1 kl_9 (by decide) fl_X9_17 (v := rv b0 (mR σ l0 2)) rfl dX9_dropFrom_48 ?_
      refine x_iload_n C hl dX9_dropFrom_51 rfl ?_
      have t2 := h.1
      replace h := h.2
      have v3 := h.1
      replace h := h.2
      refine x_aald C hW (t := 105) (t0 := 6) t2 (by decide) rfl v3 dX9_dropFrom_52 ?_
      refine y_i (x_run (As := [rv b0 (mR σ (mR σ l0 2) l2.toNatClampNeg)]) C hW hS (T_X9_followOwned l l0 (mR σ (mR σ l0 2) l2.toNatClampNeg) σ _ h) t1 kl_9 (CW.of yv_X9_followOwned ml_X9_150) ⟨rfl, rfl, ⟨by decide, by decide⟩, by decide, by decide⟩ rfl hl.1 rfl (by decide) dX9_dropFrom_53) hS (fun w5 s4 H locs h hW hS => ?_)
      refine lv_if_ne hx hb dX9_dropFrom_56 (tgt := 62) rfl (fun hc => ?_) (fun hc => ?_)
      · replace h := h.2 hc
        refine x_iinc C hl dX9_dropFrom_62 rfl (v := (1 : Int32)) (by decide) (by decide) rfl (fun ls hl => ?_)
        refine lv_goto hx hb dX9_dropFrom_65 (tgt := 38) rfl ?_
        exact hK38 _ _ _ _ _ hS hW (hl.keep [true, false, true, false] rfl) h
      · replace h := h.1 hc
        refine lv_bipush (v := (-2 : Int32)) hx hb dX9_dropFrom_59 (by decide) ?_
        exact r_i C hr hW hS h dX9_dropFrom_61
set_option maxRecDepth 20000 in
set_option maxHeartbeats 4000000 in
theorem t_X9_dropFrom_38 {p : Program} {l : Launch} {e : Env} {s : State} {m : MethodId} {args : Array Value} {below : List Frame} {meth : Method} {c : Code} {H : Heap} {locs : List Loc} {D : va_G} {tc : Nat → ClassId} {b0 : Nat} {ls : Array Slot} {G : Lay} {Qx : Int32 → Mem → Prop} {l0 : Nat} {l2 : Int32}  {σ : Mem} (C : Cx p s m args meth c cX9_dropFrom RX9 4 D tc b0) (hr : meth.sig.returnType = (some FieldType.int)) (hS : va_S (AA b0) s.heap H locs) (hW : Wd G D tc b0 σ H) (hl : hL b0 ls 4 [some (.inr (.inr l0)), none, some (.inl l2), none]) (h : X_X9_dropFrom_38 G Qx l0 l2 σ) : W p l e rm_X9_dropFrom s m args below meth c H locs 0 0 (MQ below (va_Qi Qx (fun u t => Pw G D tc b0 u t) (AA b0)) args s 0 0 (AA b0)) (F0 m 38 ls []) := by
  obtain ⟨n, h⟩ := h
  exact t_X9_dropFrom_38_n C hr n l2 σ H locs ls hS hW hl h
set_option maxRecDepth 20000 in
set_option maxHeartbeats 4000000 in
theorem t_X9_dropFrom_2_n {p : Program} {l : Launch} {e : Env} {s : State} {m : MethodId} {args : Array Value} {below : List Frame} {meth : Method} {c : Code} {D : va_G} {tc : Nat → ClassId} {b0 : Nat} {G : Lay} {Qx : Int32 → Mem → Prop} {l0 : Nat} {l1 : Nat} (C : Cx p s m args meth c cX9_dropFrom RX9 4 D tc b0) (hr : meth.sig.returnType = (some FieldType.int)) (n : Nat) : ∀ (l2 : Int32) (σ : Mem) (H : Heap) (locs : List Loc) (ls : Array Slot), va_S (AA b0) s.heap H locs → Wd G D tc b0 σ H → hL b0 ls 4 [some (.inr (.inr l0)), some (.inr (.inr l1)), some (.inl l2), none] → Lp (X_X9_dropFrom_2_s G Qx l0 l1) n (l2, σ) → W p l e rm_X9_dropFrom s m args below meth c H locs 0 0 (MQ below (va_Qi Qx (fun u t => Pw G D tc b0 u t) (AA b0)) args s 0 0 (AA b0)) (F0 m 2 ls []) := by
  have hx := C.1
  have hb := C.2.1
  induction n with
  | zero => intro l2 σ H locs ls hS hW hl h; exact False.elim h
  | succ n hK2 =>
    intro l2 σ H locs ls hS hW hl h
    replace h : X_X9_dropFrom_2_s G Qx l0 l1 (Lp (X_X9_dropFrom_2_s G Qx l0 l1) n) (l2, σ) := h
    unfold X_X9_dropFrom_2_s at h
    refine x_iload_n C hl dX9_dropFrom_2 rfl ?_
    refine x_aload_n C hl dX9_dropFrom_3 rfl ?_
    have t1 := h.1
    replace h := h.2
    refine x_get C hW (t := 9) (k := 5) t1 kl_9 (by decide) fl_X9_35 (v := .int (mI σ l0 5)) rfl dX9_dropFrom_4 ?_
    refine lv_icmp_ge hx hb dX9_dropFrom_7 (tgt := 26) rfl (fun hc => ?_) (fun hc => ?_)
    · replace h := h.1 hc
      refine x_aload_n C hl dX9_dropFrom_26 rfl ?_
      refine lv_iconst (v := (0 : Int32)) hx hb dX9_dropFrom_27 (by decide) ?_
      refine x_putI C hW hS (t := 9) (k := 7) t1 kl_9 (by decide) fl_X9_144 rfl rfl rfl rfl dX9_dropFrom_28 (fun H locs hW hS => ?_)
      obtain ⟨s2, e_s2⟩ : ∃ z : Mem, z = (sI σ l0 7 (0 : Int32)) := ⟨_, rfl⟩
      replace h := h s2 e_s2
      replace hW : Wd G D tc b0 s2 H := by rw [e_s2]; exact hW
      refine x_aload_n C hl dX9_dropFrom_31 rfl ?_
      refine x_aload_n C hl dX9_dropFrom_32 rfl ?_
      refine y_v (x_run (As := [rv b0 l1]) C hW hS (T_X9_joinDropRow l l0 l1 s2 _ h) t1 kl_9 (CW.of yv_X9_joinDropRow ml_X9_147) ⟨rfl, rfl, ⟨by decide, by decide⟩, by decide, by decide⟩ rfl hl.1 rfl (by decide) dX9_dropFrom_33) hS (fun s3 H locs h hW hS => ?_)
      refine lv_iconst (v := (0 : Int32)) hx hb dX9_dropFrom_36 (by decide) ?_
      refine x_istore_n C hl dX9_dropFrom_37 (by decide) rfl (fun ls hl => ?_)
      exact t_X9_dropFrom_38 C hr hS hW (hl.keep [true, false, true, false] rfl) h
    · replace h := h.2 hc
      refine x_aload_n C hl dX9_dropFrom_10 rfl ?_
      refine x_get C hW (t := 9) (k := 1) t1 kl_9 (by decide) fl_X9_11 (v := rv b0 (mR σ l0 1)) rfl dX9_dropFrom_11 ?_
      refine x_iload_n C hl dX9_dropFrom_14 rfl ?_
      have t4 := h.1
      replace h := h.2
      have v5 := h.1
      replace h := h.2
      refine x_aald C hW (t := 105) (t0 := 6) t4 (by decide) rfl v5 dX9_dropFrom_15 ?_
      refine lv_iconst (v := (0 : Int32)) hx hb dX9_dropFrom_16 (by decide) ?_
      have t6 := h.1
      replace h := h.2
      have b8 := h.1
      replace h := h.2
      refine x_putI C hW hS (t := 7) (k := 8) t6 kl_7 (by decide) fl_X9_141 rfl rfl (bz_n b8) (bz_f b8) dX9_dropFrom_17 (fun H locs hW hS => ?_)
      obtain ⟨s7, e_s7⟩ : ∃ z : Mem, z = (sI σ (mR σ (mR σ l0 1) l2.toNatClampNeg) 8 (0 : Int32)) := ⟨_, rfl⟩
      replace h := h s7 e_s7
      replace hW : Wd G D tc b0 s7 H := by rw [e_s7]; exact hW
      refine x_iinc C hl dX9_dropFrom_20 rfl (v := (1 : Int32)) (by decide) (by decide) rfl (fun ls hl => ?_)
      refine lv_goto hx hb dX9_dropFrom_23 (tgt := 2) rfl ?_
      exact hK2 _ _ _ _ _ hS hW (hl.keep [true, true, true, false] rfl) h
set_option maxRecDepth 20000 in
set_option maxHeartbeats 4000000 in
theorem t_X9_dropFrom_2 {p : Program} {l : Launch} {e : Env} {s : State} {m : MethodId} {args : Array Value} {below : List Frame} {meth : Method} {c : Code} {H : Heap} {locs : List Loc} {D : va_G} {tc : Nat → ClassId} {b0 : Nat} {ls : Array Slot} {G : Lay} {Qx : Int32 → Mem → Prop} {l0 : Nat} {l1 : Nat} {l2 : Int32}  {σ : Mem} (C : Cx p s m args meth c cX9_dropFrom RX9 4 D tc b0) (hr : meth.sig.returnType = (some FieldType.int)) (hS : va_S (AA b0) s.heap H locs) (hW : Wd G D tc b0 σ H) (hl : hL b0 ls 4 [some (.inr (.inr l0)), some (.inr (.inr l1)), some (.inl l2), none]) (h : X_X9_dropFrom_2 G Qx l0 l1 l2 σ) : W p l e rm_X9_dropFrom s m args below meth c H locs 0 0 (MQ below (va_Qi Qx (fun u t => Pw G D tc b0 u t) (AA b0)) args s 0 0 (AA b0)) (F0 m 2 ls []) := by
  obtain ⟨n, h⟩ := h
  exact t_X9_dropFrom_2_n C hr n l2 σ H locs ls hS hW hl h
set_option maxRecDepth 20000 in
set_option maxHeartbeats 4000000 in
theorem t_X9_dropFrom_0 {p : Program} {l : Launch} {e : Env} {s : State} {m : MethodId} {args : Array Value} {below : List Frame} {meth : Method} {c : Code} {H : Heap} {locs : List Loc} {D : va_G} {tc : Nat → ClassId} {b0 : Nat} {ls : Array Slot} {G : Lay} {Qx : Int32 → Mem → Prop} {l0 : Nat} {l1 : Nat}  {σ : Mem} (C : Cx p s m args meth c cX9_dropFrom RX9 4 D tc b0) (hr : meth.sig.returnType = (some FieldType.int)) (hS : va_S (AA b0) s.heap H locs) (hW : Wd G D tc b0 σ H) (hl : hL b0 ls 4 [some (.inr (.inr l0)), some (.inr (.inr l1)), none, none]) (h : X_X9_dropFrom_0 G Qx l0 l1  σ) : W p l e rm_X9_dropFrom s m args below meth c H locs 0 0 (MQ below (va_Qi Qx (fun u t => Pw G D tc b0 u t) (AA b0)) args s 0 0 (AA b0)) (F0 m 0 ls []) := by
  have hx := C.1
  have hb := C.2.1
  unfold X_X9_dropFrom_0 at h
  refine lv_iconst (v := (0 : Int32)) hx hb dX9_dropFrom_0 (by decide) ?_
  refine x_istore_n C hl dX9_dropFrom_1 (by decide) rfl (fun ls hl => ?_)
  exact t_X9_dropFrom_2 C hr hS hW (hl.keep [true, true, true, false] rfl) h
theorem T_X9_dropFrom (l : Launch) {G : Lay} {D : va_G} {tc : Nat → ClassId} {b0 : Nat} (l0 : Nat) (l1 : Nat) (σ : Mem) (Qx : Int32 → Mem → Prop) (h : X_X9_dropFrom G Qx l0 l1 σ) : MI l yX9_dropFrom cX9_dropFrom 4 ((some FieldType.int)) rm_X9_dropFrom G D tc b0 [rv b0 l0, rv b0 l1] σ Qx :=
  x_entry (y := yX9_dropFrom) [.inr (.inr l0), .inr (.inr l1)] 2 (by decide) (Nat.le_of_ble_eq_true rfl) (fun p e s m args below meth c ls C hr hW hl => t_X9_dropFrom_0 C hr va_S.rf hW (hl.keep [true, true, false, false] rfl) h)
/-! X10_logged -/
set_option maxRecDepth 20000 in
set_option maxHeartbeats 4000000 in
theorem t_X10_logged_12 {p : Program} {l : Launch} {e : Env} {s : State} {m : MethodId} {args : Array Value} {below : List Frame} {meth : Method} {c : Code} {H : Heap} {locs : List Loc} {D : va_G} {tc : Nat → ClassId} {b0 : Nat} {ls : Array Slot} {G : Lay} {Qx : Int32 → Mem → Prop}   {σ : Mem} (C : Cx p s m args meth c cX10_logged RX10 3 D tc b0) (hr : meth.sig.returnType = (some FieldType.int)) (hS : va_S (AA b0) s.heap H locs) (hW : Wd G D tc b0 σ H) (hl : hL b0 ls 3 [none, none, none]) (h : X_X10_logged_12 G Qx   σ) : W p l e rm_X10_logged s m args below meth c H locs 0 0 (MQ below (va_Qi Qx (fun u t => Pw G D tc b0 u t) (AA b0)) args s 0 0 (AA b0)) (F0 m 12 ls []) := by
  have hx := C.1
  have hb := C.2.1
  unfold X_X10_logged_12 at h
  refine lv_iconst (v := (-1 : Int32)) hx hb dX10_logged_12 (by decide) ?_
  exact r_i C hr hW hS h dX10_logged_13
set_option maxRecDepth 20000 in
set_option maxHeartbeats 4000000 in
theorem t_X10_logged_0 {p : Program} {l : Launch} {e : Env} {s : State} {m : MethodId} {args : Array Value} {below : List Frame} {meth : Method} {c : Code} {H : Heap} {locs : List Loc} {D : va_G} {tc : Nat → ClassId} {b0 : Nat} {ls : Array Slot} {G : Lay} {Qx : Int32 → Mem → Prop} {l0 : Nat} {l1 : Int32} {l2 : Int32}  {σ : Mem} (C : Cx p s m args meth c cX10_logged RX10 3 D tc b0) (hr : meth.sig.returnType = (some FieldType.int)) (hS : va_S (AA b0) s.heap H locs) (hW : Wd G D tc b0 σ H) (hl : hL b0 ls 3 [some (.inr (.inr l0)), some (.inl l1), some (.inl l2)]) (h : X_X10_logged_0 G Qx l0 l1 l2  σ) : W p l e rm_X10_logged s m args below meth c H locs 0 0 (MQ below (va_Qi Qx (fun u t => Pw G D tc b0 u t) (AA b0)) args s 0 0 (AA b0)) (F0 m 0 ls []) := by
  have hx := C.1
  have hb := C.2.1
  unfold X_X10_logged_0 at h
  refine x_iload_n C hl dX10_logged_0 rfl ?_
  refine lv_if_lt hx hb dX10_logged_1 (tgt := 12) rfl (fun hc => ?_) (fun hc => ?_)
  · replace h := h.1 hc
    exact t_X10_logged_12 C hr hS hW (hl.keep [false, false, false] rfl) h
  · replace h := h.2 hc
    refine x_iload_n C hl dX10_logged_4 rfl ?_
    refine x_aload_n C hl dX10_logged_5 rfl ?_
    have t1 := h.1
    replace h := h.2
    refine x_get C hW (t := 10) (k := 9) t1 kl_10 (by decide) fl_X10_59 (v := .int (mI σ l0 9)) rfl dX10_logged_6 ?_
    refine lv_icmp_lt hx hb dX10_logged_9 (tgt := 14) rfl (fun hc => ?_) (fun hc => ?_)
    · replace h := h.1 hc
      refine x_iload_n C hl dX10_logged_14 rfl ?_
      by_cases hc0 : l2 = 0
      · replace h := h.1 hc0
        rw [hc0]
        refine lv_tableIn hx hb dX10_logged_15 (by decide) (by decide) (off := 29) rfl (tgt := 44) rfl ?_
        refine x_aload_n C hl dX10_logged_44 rfl ?_
        refine x_get C hW (t := 10) (k := 10) t1 kl_10 (by decide) fl_X10_30 (v := rv b0 (mR σ l0 10)) rfl dX10_logged_45 ?_
        refine x_iload_n C hl dX10_logged_48 rfl ?_
        have t2 := h.1
        replace h := h.2
        have v3 := h.1
        replace h := h.2
        refine x_iald C hW t2 v3 dX10_logged_49 ?_
        exact r_i C hr hW hS h dX10_logged_50
      replace h := h.2
      by_cases hc1 : l2 = 1
      · replace h := h.1 hc1
        rw [hc1]
        refine lv_tableIn hx hb dX10_logged_15 (by decide) (by decide) (off := 36) rfl (tgt := 51) rfl ?_
        refine x_aload_n C hl dX10_logged_51 rfl ?_
        refine x_get C hW (t := 10) (k := 11) t1 kl_10 (by decide) fl_X10_34 (v := rv b0 (mR σ l0 11)) rfl dX10_logged_52 ?_
        refine x_iload_n C hl dX10_logged_55 rfl ?_
        have t4 := h.1
        replace h := h.2
        have v5 := h.1
        replace h := h.2
        refine x_iald C hW t4 v5 dX10_logged_56 ?_
        exact r_i C hr hW hS h dX10_logged_57
      replace h := h.2
      by_cases hc2 : l2 = 2
      · replace h := h.1 hc2
        rw [hc2]
        refine lv_tableIn hx hb dX10_logged_15 (by decide) (by decide) (off := 43) rfl (tgt := 58) rfl ?_
        refine x_aload_n C hl dX10_logged_58 rfl ?_
        refine x_get C hW (t := 10) (k := 12) t1 kl_10 (by decide) fl_X10_37 (v := rv b0 (mR σ l0 12)) rfl dX10_logged_59 ?_
        refine x_iload_n C hl dX10_logged_62 rfl ?_
        have t6 := h.1
        replace h := h.2
        have v7 := h.1
        replace h := h.2
        refine x_iald C hW t6 v7 dX10_logged_63 ?_
        exact r_i C hr hW hS h dX10_logged_64
      replace h := h.2
      by_cases hc3 : l2 = 3
      · replace h := h.1 hc3
        rw [hc3]
        refine lv_tableIn hx hb dX10_logged_15 (by decide) (by decide) (off := 50) rfl (tgt := 65) rfl ?_
        refine x_aload_n C hl dX10_logged_65 rfl ?_
        refine x_get C hW (t := 10) (k := 13) t1 kl_10 (by decide) fl_X10_40 (v := rv b0 (mR σ l0 13)) rfl dX10_logged_66 ?_
        refine x_iload_n C hl dX10_logged_69 rfl ?_
        have t8 := h.1
        replace h := h.2
        have v9 := h.1
        replace h := h.2
        refine x_iald C hW t8 v9 dX10_logged_70 ?_
        exact r_i C hr hW hS h dX10_logged_71
      replace h := h.2
      replace h := h ⟨hc0, hc1, hc2, hc3⟩
      refine lv_tableOut hx hb dX10_logged_15 (tb_out4 hc0 hc1 hc2 hc3) (tgt := 72) rfl ?_
      refine lv_iconst (v := (-1 : Int32)) hx hb dX10_logged_72 (by decide) ?_
      exact r_i C hr hW hS h dX10_logged_73
    · replace h := h.2 hc
      exact t_X10_logged_12 C hr hS hW (hl.keep [false, false, false] rfl) h
theorem T_X10_logged (l : Launch) {G : Lay} {D : va_G} {tc : Nat → ClassId} {b0 : Nat} (l0 : Nat) (l1 : Int32) (l2 : Int32) (σ : Mem) (Qx : Int32 → Mem → Prop) (h : X_X10_logged G Qx l0 l1 l2 σ) : MI l yX10_logged cX10_logged 3 ((some FieldType.int)) rm_X10_logged G D tc b0 [rv b0 l0, .int l1, .int l2] σ Qx :=
  x_entry (y := yX10_logged) [.inr (.inr l0), .inl l1, .inl l2] 0 (by decide) (Nat.le_of_ble_eq_true rfl) (fun p e s m args below meth c ls C hr hW hl => t_X10_logged_0 C hr va_S.rf hW (hl.keep [true, true, true] rfl) h)
/-! X10_begin -/
set_option maxRecDepth 20000 in
set_option maxHeartbeats 4000000 in
theorem t_X10_begin_0 {p : Program} {l : Launch} {e : Env} {s : State} {m : MethodId} {args : Array Value} {below : List Frame} {meth : Method} {c : Code} {H : Heap} {locs : List Loc} {D : va_G} {tc : Nat → ClassId} {b0 : Nat} {ls : Array Slot} {G : Lay} {Qx : Mem → Prop} {l0 : Nat}  {σ : Mem} (C : Cx p s m args meth c cX10_begin RX10 1 D tc b0) (hr : meth.sig.returnType = (none : Option FieldType)) (hS : va_S (AA b0) s.heap H locs) (hW : Wd G D tc b0 σ H) (hl : hL b0 ls 1 [some (.inr (.inr l0))]) (h : X_X10_begin_0 G Qx l0  σ) : W p l e rm_X10_begin s m args below meth c H locs 0 0 (MQ below (va_Qv Qx (fun u t => Pw G D tc b0 u t) (AA b0)) args s 0 0 (AA b0)) (F0 m 0 ls []) := by
  have hx := C.1
  have hb := C.2.1
  unfold X_X10_begin_0 at h
  refine x_aload_n C hl dX10_begin_0 rfl ?_
  refine lv_iconst (v := (0 : Int32)) hx hb dX10_begin_1 (by decide) ?_
  have t1 := h.1
  replace h := h.2
  refine x_putI C hW hS (t := 10) (k := 4) t1 kl_10 (by decide) fl_X10_91 rfl rfl rfl rfl dX10_begin_2 (fun H locs hW hS => ?_)
  obtain ⟨s2, e_s2⟩ : ∃ z : Mem, z = (sI σ l0 4 (0 : Int32)) := ⟨_, rfl⟩
  replace h := h s2 e_s2
  replace hW : Wd G D tc b0 s2 H := by rw [e_s2]; exact hW
  refine x_aload_n C hl dX10_begin_5 rfl ?_
  refine lv_iconst (v := (-1 : Int32)) hx hb dX10_begin_6 (by decide) ?_
  refine x_putI C hW hS (t := 10) (k := 5) t1 kl_10 (by decide) fl_X10_17 rfl rfl rfl rfl dX10_begin_7 (fun H locs hW hS => ?_)
  obtain ⟨s3, e_s3⟩ : ∃ z : Mem, z = (sI s2 l0 5 (-1 : Int32)) := ⟨_, rfl⟩
  replace h := h s3 e_s3
  replace hW : Wd G D tc b0 s3 H := by rw [e_s3]; exact hW
  refine x_aload_n C hl dX10_begin_10 rfl ?_
  refine lv_iconst (v := (-1 : Int32)) hx hb dX10_begin_11 (by decide) ?_
  refine x_putI C hW hS (t := 10) (k := 6) t1 kl_10 (by decide) fl_X10_21 rfl rfl rfl rfl dX10_begin_12 (fun H locs hW hS => ?_)
  obtain ⟨s4, e_s4⟩ : ∃ z : Mem, z = (sI s3 l0 6 (-1 : Int32)) := ⟨_, rfl⟩
  replace h := h s4 e_s4
  replace hW : Wd G D tc b0 s4 H := by rw [e_s4]; exact hW
  refine x_aload_n C hl dX10_begin_15 rfl ?_
  refine lv_iconst (v := (-1 : Int32)) hx hb dX10_begin_16 (by decide) ?_
  refine x_putI C hW hS (t := 10) (k := 7) t1 kl_10 (by decide) fl_X10_24 rfl rfl rfl rfl dX10_begin_17 (fun H locs hW hS => ?_)
  obtain ⟨s5, e_s5⟩ : ∃ z : Mem, z = (sI s4 l0 7 (-1 : Int32)) := ⟨_, rfl⟩
  replace h := h s5 e_s5
  replace hW : Wd G D tc b0 s5 H := by rw [e_s5]; exact hW
  refine x_aload_n C hl dX10_begin_20 rfl ?_
  refine lv_iconst (v := (-1 : Int32)) hx hb dX10_begin_21 (by decide) ?_
  refine x_putI C hW hS (t := 10) (k := 8) t1 kl_10 (by decide) fl_X10_27 rfl rfl rfl rfl dX10_begin_22 (fun H locs hW hS => ?_)
  obtain ⟨s6, e_s6⟩ : ∃ z : Mem, z = (sI s5 l0 8 (-1 : Int32)) := ⟨_, rfl⟩
  replace h := h s6 e_s6
  replace hW : Wd G D tc b0 s6 H := by rw [e_s6]; exact hW
  refine x_aload_n C hl dX10_begin_25 rfl ?_
  refine lv_iconst (v := (0 : Int32)) hx hb dX10_begin_26 (by decide) ?_
  refine x_putI C hW hS (t := 10) (k := 9) t1 kl_10 (by decide) fl_X10_59 rfl rfl rfl rfl dX10_begin_27 (fun H locs hW hS => ?_)
  obtain ⟨s7, e_s7⟩ : ∃ z : Mem, z = (sI s6 l0 9 (0 : Int32)) := ⟨_, rfl⟩
  replace h := h s7 e_s7
  replace hW : Wd G D tc b0 s7 H := by rw [e_s7]; exact hW
  exact r_v C hr hW hS h dX10_begin_30
theorem T_X10_begin (l : Launch) {G : Lay} {D : va_G} {tc : Nat → ClassId} {b0 : Nat} (l0 : Nat) (σ : Mem) (Qx : Mem → Prop) (h : X_X10_begin G Qx l0 σ) : MV l yX10_begin cX10_begin 1 ((none : Option FieldType)) rm_X10_begin G D tc b0 [rv b0 l0] σ Qx :=
  x_entry (y := yX10_begin) [.inr (.inr l0)] 0 (by decide) (Nat.le_of_ble_eq_true rfl) (fun p e s m args below meth c ls C hr hW hl => t_X10_begin_0 C hr va_S.rf hW (hl.keep [true] rfl) h)
/-! X10_arrange -/
set_option maxRecDepth 20000 in
set_option maxHeartbeats 4000000 in
theorem t_X10_arrange_114 {p : Program} {l : Launch} {e : Env} {s : State} {m : MethodId} {args : Array Value} {below : List Frame} {meth : Method} {c : Code} {H : Heap} {locs : List Loc} {D : va_G} {tc : Nat → ClassId} {b0 : Nat} {ls : Array Slot} {G : Lay} {Qx : Mem → Prop} {l0 : Nat} {l1 : Nat} {l2 : Int32}  {K7 : Int32 × Mem → Prop} {σ : Mem} (C : Cx p s m args meth c cX10_arrange RX10 5 D tc b0) (hr : meth.sig.returnType = (none : Option FieldType)) (hK7 : ∀ (x2 : Int32) (σ : Mem) (H : Heap) (locs : List Loc) (ls : Array Slot), va_S (AA b0) s.heap H locs → Wd G D tc b0 σ H → hL b0 ls 5 [some (.inr (.inr l0)), some (.inr (.inr l1)), some (.inl x2), none, none] → K7 (x2, σ) → W p l e rm_X10_arrange s m args below meth c H locs 0 0 (MQ below (va_Qv Qx (fun u t => Pw G D tc b0 u t) (AA b0)) args s 0 0 (AA b0)) (F0 m 7 ls [])) (hS : va_S (AA b0) s.heap H locs) (hW : Wd G D tc b0 σ H) (hl : hL b0 ls 5 [some (.inr (.inr l0)), some (.inr (.inr l1)), some (.inl l2), none, none]) (h : X_X10_arrange_114 G Qx K7 l0 l1 l2  σ) : W p l e rm_X10_arrange s m args below meth c H locs 0 0 (MQ below (va_Qv Qx (fun u t => Pw G D tc b0 u t) (AA b0)) args s 0 0 (AA b0)) (F0 m 114 ls []) := by
  have hx := C.1
  have hb := C.2.1
  unfold X_X10_arrange_114 at h
  refine x_iinc C hl dX10_arrange_114 rfl (v := (1 : Int32)) (by decide) (by decide) rfl (fun ls hl => ?_)
  refine lv_goto hx hb dX10_arrange_117 (tgt := 7) rfl ?_
  exact hK7 _ _ _ _ _ hS hW (hl.keep [true, true, true, false, false] rfl) h
set_option maxRecDepth 20000 in
set_option maxHeartbeats 4000000 in
theorem t_X10_arrange_96 {p : Program} {l : Launch} {e : Env} {s : State} {m : MethodId} {args : Array Value} {below : List Frame} {meth : Method} {c : Code} {H : Heap} {locs : List Loc} {D : va_G} {tc : Nat → ClassId} {b0 : Nat} {ls : Array Slot} {G : Lay} {Qx : Mem → Prop} {l0 : Nat} {l1 : Nat} {l2 : Int32} {l3 : Nat} {l4 : Int32}  {K7 : Int32 × Mem → Prop} {σ : Mem} (C : Cx p s m args meth c cX10_arrange RX10 5 D tc b0) (hr : meth.sig.returnType = (none : Option FieldType)) (hK7 : ∀ (x2 : Int32) (σ : Mem) (H : Heap) (locs : List Loc) (ls : Array Slot), va_S (AA b0) s.heap H locs → Wd G D tc b0 σ H → hL b0 ls 5 [some (.inr (.inr l0)), some (.inr (.inr l1)), some (.inl x2), none, none] → K7 (x2, σ) → W p l e rm_X10_arrange s m args below meth c H locs 0 0 (MQ below (va_Qv Qx (fun u t => Pw G D tc b0 u t) (AA b0)) args s 0 0 (AA b0)) (F0 m 7 ls [])) (hS : va_S (AA b0) s.heap H locs) (hW : Wd G D tc b0 σ H) (hl : hL b0 ls 5 [some (.inr (.inr l0)), some (.inr (.inr l1)), some (.inl l2), some (.inr (.inr l3)), some (.inl l4)]) (h : X_X10_arrange_96 G Qx K7 l0 l1 l2 l3 l4  σ) : W p l e rm_X10_arrange s m args below meth c H locs 0 0 (MQ below (va_Qv Qx (fun u t => Pw G D tc b0 u t) (AA b0)) args s 0 0 (AA b0)) (F0 m 96 ls []) := by
  have hx := C.1
  have hb := C.2.1
  unfold X_X10_arrange_96 at h
  refine x_aload_n C hl dX10_arrange_96 rfl ?_
  have t1 := h.1
  replace h := h.2
  refine x_get C hW (t := 10) (k := 2) t1 kl_10 (by decide) fl_X10_11 (v := rv b0 (mR σ l0 2)) rfl dX10_arrange_97 ?_
  refine x_iload C hl dX10_arrange_100 rfl ?_
  refine x_aload_n C hl dX10_arrange_102 rfl ?_
  have t2 := h.1
  replace h := h.2
  have v3 := h.1
  replace h := h.2
  have t5 := h.1
  replace h := h.2
  refine x_aast C hW hS (t := 105) (t0 := 6) (tv := 7) t2 (by decide) rfl t5 kl_7 v3 dX10_arrange_103 (fun H locs hW hS => ?_)
  obtain ⟨s4, e_s4⟩ : ∃ z : Mem, z = (sR σ (mR σ l0 2) l4.toNatClampNeg l3) := ⟨_, rfl⟩
  replace h := h s4 e_s4
  replace hW : Wd G D tc b0 s4 H := by rw [e_s4]; exact hW
  refine x_aload_n C hl dX10_arrange_104 rfl ?_
  refine lv_dup hx hb dX10_arrange_105 (rv_cat _ _) ?_
  refine x_get C hW (t := 10) (k := 3) t1 kl_10 (by decide) fl_X10_100 (v := .int (mI s4 l0 3)) rfl dX10_arrange_106 ?_
  refine lv_iconst (v := (1 : Int32)) hx hb dX10_arrange_109 (by decide) ?_
  refine lv_iadd hx hb dX10_arrange_110 ?_
  refine x_putI C hW hS (t := 10) (k := 3) t1 kl_10 (by decide) fl_X10_100 rfl rfl rfl rfl dX10_arrange_111 (fun H locs hW hS => ?_)
  obtain ⟨s6, e_s6⟩ : ∃ z : Mem, z = (sI s4 l0 3 ((mI s4 l0 3) + (1 : Int32))) := ⟨_, rfl⟩
  replace h := h s6 e_s6
  replace hW : Wd G D tc b0 s6 H := by rw [e_s6]; exact hW
  exact t_X10_arrange_114 C hr hK7 hS hW (hl.keep [true, true, true, false, false] rfl) h
set_option maxRecDepth 20000 in
set_option maxHeartbeats 4000000 in
theorem t_X10_arrange_53_n {p : Program} {l : Launch} {e : Env} {s : State} {m : MethodId} {args : Array Value} {below : List Frame} {meth : Method} {c : Code} {D : va_G} {tc : Nat → ClassId} {b0 : Nat} {G : Lay} {Qx : Mem → Prop} {l0 : Nat} {l1 : Nat} {l2 : Int32} {l3 : Nat} {K7 : Int32 × Mem → Prop} (C : Cx p s m args meth c cX10_arrange RX10 5 D tc b0) (hr : meth.sig.returnType = (none : Option FieldType)) (hK7 : ∀ (x2 : Int32) (σ : Mem) (H : Heap) (locs : List Loc) (ls : Array Slot), va_S (AA b0) s.heap H locs → Wd G D tc b0 σ H → hL b0 ls 5 [some (.inr (.inr l0)), some (.inr (.inr l1)), some (.inl x2), none, none] → K7 (x2, σ) → W p l e rm_X10_arrange s m args below meth c H locs 0 0 (MQ below (va_Qv Qx (fun u t => Pw G D tc b0 u t) (AA b0)) args s 0 0 (AA b0)) (F0 m 7 ls [])) (n : Nat) : ∀ (l4 : Int32) (σ : Mem) (H : Heap) (locs : List Loc) (ls : Array Slot), va_S (AA b0) s.heap H locs → Wd G D tc b0 σ H → hL b0 ls 5 [some (.inr (.inr l0)), some (.inr (.inr l1)), some (.inl l2), some (.inr (.inr l3)), some (.inl l4)] → Lp (X_X10_arrange_53_s G Qx K7 l0 l1 l2 l3) n (l4, σ) → W p l e rm_X10_arrange s m args below meth c H locs 0 0 (MQ below (va_Qv Qx (fun u t => Pw G D tc b0 u t) (AA b0)) args s 0 0 (AA b0)) (F0 m 53 ls []) := by
  have hx := C.1
  have hb := C.2.1
  induction n with
  | zero => intro l4 σ H locs ls hS hW hl h; exact False.elim h
  | succ n hK53 =>
    intro l4 σ H locs ls hS hW hl h
    replace h : X_X10_arrange_53_s G Qx K7 l0 l1 l2 l3 (Lp (X_X10_arrange_53_s G Qx K7 l0 l1 l2 l3) n) (l4, σ) := h
    unfold X_X10_arrange_53_s at h
    refine x_iload C hl dX10_arrange_53 rfl ?_
    refine lv_if_le hx hb dX10_arrange_55 (tgt := 96) rfl (fun hc => ?_) (fun hc => ?_)
    · replace h := h.1 hc
      exact t_X10_arrange_96 C hr hK7 hS hW (hl.keep [true, true, true, true, true] rfl) h
    · replace h := h.2 hc
      refine x_aload_n C hl dX10_arrange_58 rfl ?_
      refine x_aload_n C hl dX10_arrange_59 rfl ?_
      have t1 := h.1
      replace h := h.2
      refine x_get C hW (t := 10) (k := 2) t1 kl_10 (by decide) fl_X10_11 (v := rv b0 (mR σ l0 2)) rfl dX10_arrange_60 ?_
      refine x_iload C hl dX10_arrange_63 rfl ?_
      refine lv_iconst (v := (1 : Int32)) hx hb dX10_arrange_65 (by decide) ?_
      refine lv_isub hx hb dX10_arrange_66 ?_
      have t2 := h.1
      replace h := h.2
      have v3 := h.1
      replace h := h.2
      refine x_aald C hW (t := 105) (t0 := 6) t2 (by decide) rfl v3 dX10_arrange_67 ?_
      have t4 := h.1
      replace h := h.2
      refine y_i (x_run (As := [rv b0 (mR σ (mR σ l0 2) (l4 - (1 : Int32)).toNatClampNeg)]) C hW hS (T_X7_isAhead l l3 (mR σ (mR σ l0 2) (l4 - (1 : Int32)).toNatClampNeg) σ _ h) t4 kl_7 (CW.of yv_X7_isAhead ml_X10_121) ⟨rfl, rfl, ⟨by decide, by decide⟩, by decide, by decide⟩ rfl hl.1 rfl (by decide) dX10_arrange_68) hS (fun w6 s5 H locs h hW hS => ?_)
      refine lv_if_eq hx hb dX10_arrange_71 (tgt := 96) rfl (fun hc => ?_) (fun hc => ?_)
      · replace h := h.1 hc
        exact t_X10_arrange_96 C hr hK7 hS hW (hl.keep [true, true, true, true, true] rfl) h
      · replace h := h.2 hc
        refine x_aload_n C hl dX10_arrange_74 rfl ?_
        refine x_get C hW (t := 10) (k := 2) t1 kl_10 (by decide) fl_X10_11 (v := rv b0 (mR s5 l0 2)) rfl dX10_arrange_75 ?_
        refine x_iload C hl dX10_arrange_78 rfl ?_
        refine x_aload_n C hl dX10_arrange_80 rfl ?_
        refine x_get C hW (t := 10) (k := 2) t1 kl_10 (by decide) fl_X10_11 (v := rv b0 (mR s5 l0 2)) rfl dX10_arrange_81 ?_
        refine x_iload C hl dX10_arrange_84 rfl ?_
        refine lv_iconst (v := (1 : Int32)) hx hb dX10_arrange_86 (by decide) ?_
        refine lv_isub hx hb dX10_arrange_87 ?_
        have t7 := h.1
        replace h := h.2
        have v8 := h.1
        replace h := h.2
        refine x_aald C hW (t := 105) (t0 := 6) t7 (by decide) rfl v8 dX10_arrange_88 ?_
        have v9 := h.1
        replace h := h.2
        have t11 := h.1
        replace h := h.2
        refine x_aast C hW hS (t := 105) (t0 := 6) (tv := 7) t7 (by decide) rfl t11 kl_7 v9 dX10_arrange_89 (fun H locs hW hS => ?_)
        obtain ⟨s10, e_s10⟩ : ∃ z : Mem, z = (sR s5 (mR s5 l0 2) l4.toNatClampNeg (mR s5 (mR s5 l0 2) (l4 - (1 : Int32)).toNatClampNeg)) := ⟨_, rfl⟩
        replace h := h s10 e_s10
        replace hW : Wd G D tc b0 s10 H := by rw [e_s10]; exact hW
        refine x_iinc C hl dX10_arrange_90 rfl (v := (-1 : Int32)) (by decide) (by decide) rfl (fun ls hl => ?_)
        refine lv_goto hx hb dX10_arrange_93 (tgt := 53) rfl ?_
        exact hK53 _ _ _ _ _ hS hW (hl.keep [true, true, true, true, true] rfl) h
set_option maxRecDepth 20000 in
set_option maxHeartbeats 4000000 in
theorem t_X10_arrange_53 {p : Program} {l : Launch} {e : Env} {s : State} {m : MethodId} {args : Array Value} {below : List Frame} {meth : Method} {c : Code} {H : Heap} {locs : List Loc} {D : va_G} {tc : Nat → ClassId} {b0 : Nat} {ls : Array Slot} {G : Lay} {Qx : Mem → Prop} {l0 : Nat} {l1 : Nat} {l2 : Int32} {l3 : Nat} {l4 : Int32}  {K7 : Int32 × Mem → Prop} {σ : Mem} (C : Cx p s m args meth c cX10_arrange RX10 5 D tc b0) (hr : meth.sig.returnType = (none : Option FieldType)) (hK7 : ∀ (x2 : Int32) (σ : Mem) (H : Heap) (locs : List Loc) (ls : Array Slot), va_S (AA b0) s.heap H locs → Wd G D tc b0 σ H → hL b0 ls 5 [some (.inr (.inr l0)), some (.inr (.inr l1)), some (.inl x2), none, none] → K7 (x2, σ) → W p l e rm_X10_arrange s m args below meth c H locs 0 0 (MQ below (va_Qv Qx (fun u t => Pw G D tc b0 u t) (AA b0)) args s 0 0 (AA b0)) (F0 m 7 ls [])) (hS : va_S (AA b0) s.heap H locs) (hW : Wd G D tc b0 σ H) (hl : hL b0 ls 5 [some (.inr (.inr l0)), some (.inr (.inr l1)), some (.inl l2), some (.inr (.inr l3)), some (.inl l4)]) (h : X_X10_arrange_53 G Qx K7 l0 l1 l2 l3 l4 σ) : W p l e rm_X10_arrange s m args below meth c H locs 0 0 (MQ below (va_Qv Qx (fun u t => Pw G D tc b0 u t) (AA b0)) args s 0 0 (AA b0)) (F0 m 53 ls []) := by
  obtain ⟨n, h⟩ := h
  exact t_X10_arrange_53_n C hr hK7 n l4 σ H locs ls hS hW hl h
set_option maxRecDepth 20000 in
set_option maxHeartbeats 4000000 in
theorem t_X10_arrange_47 {p : Program} {l : Launch} {e : Env} {s : State} {m : MethodId} {args : Array Value} {below : List Frame} {meth : Method} {c : Code} {H : Heap} {locs : List Loc} {D : va_G} {tc : Nat → ClassId} {b0 : Nat} {ls : Array Slot} {G : Lay} {Qx : Mem → Prop} {l0 : Nat} {l1 : Nat} {l2 : Int32} {l3 : Nat}  {K7 : Int32 × Mem → Prop} {σ : Mem} (C : Cx p s m args meth c cX10_arrange RX10 5 D tc b0) (hr : meth.sig.returnType = (none : Option FieldType)) (hK7 : ∀ (x2 : Int32) (σ : Mem) (H : Heap) (locs : List Loc) (ls : Array Slot), va_S (AA b0) s.heap H locs → Wd G D tc b0 σ H → hL b0 ls 5 [some (.inr (.inr l0)), some (.inr (.inr l1)), some (.inl x2), none, none] → K7 (x2, σ) → W p l e rm_X10_arrange s m args below meth c H locs 0 0 (MQ below (va_Qv Qx (fun u t => Pw G D tc b0 u t) (AA b0)) args s 0 0 (AA b0)) (F0 m 7 ls [])) (hS : va_S (AA b0) s.heap H locs) (hW : Wd G D tc b0 σ H) (hl : hL b0 ls 5 [some (.inr (.inr l0)), some (.inr (.inr l1)), some (.inl l2), some (.inr (.inr l3)), none]) (h : X_X10_arrange_47 G Qx K7 l0 l1 l2 l3  σ) : W p l e rm_X10_arrange s m args below meth c H locs 0 0 (MQ below (va_Qv Qx (fun u t => Pw G D tc b0 u t) (AA b0)) args s 0 0 (AA b0)) (F0 m 47 ls []) := by
  have hx := C.1
  have hb := C.2.1
  unfold X_X10_arrange_47 at h
  refine x_aload_n C hl dX10_arrange_47 rfl ?_
  have t1 := h.1
  replace h := h.2
  refine x_get C hW (t := 10) (k := 3) t1 kl_10 (by decide) fl_X10_100 (v := .int (mI σ l0 3)) rfl dX10_arrange_48 ?_
  refine x_istore C hl dX10_arrange_51 (by decide) rfl (fun ls hl => ?_)
  exact t_X10_arrange_53 C hr hK7 hS hW (hl.keep [true, true, true, true, true] rfl) h
set_option maxRecDepth 20000 in
set_option maxHeartbeats 4000000 in
theorem t_X10_arrange_7_n {p : Program} {l : Launch} {e : Env} {s : State} {m : MethodId} {args : Array Value} {below : List Frame} {meth : Method} {c : Code} {D : va_G} {tc : Nat → ClassId} {b0 : Nat} {G : Lay} {Qx : Mem → Prop} {l0 : Nat} {l1 : Nat} (C : Cx p s m args meth c cX10_arrange RX10 5 D tc b0) (hr : meth.sig.returnType = (none : Option FieldType)) (n : Nat) : ∀ (l2 : Int32) (σ : Mem) (H : Heap) (locs : List Loc) (ls : Array Slot), va_S (AA b0) s.heap H locs → Wd G D tc b0 σ H → hL b0 ls 5 [some (.inr (.inr l0)), some (.inr (.inr l1)), some (.inl l2), none, none] → Lp (X_X10_arrange_7_s G Qx l0 l1) n (l2, σ) → W p l e rm_X10_arrange s m args below meth c H locs 0 0 (MQ below (va_Qv Qx (fun u t => Pw G D tc b0 u t) (AA b0)) args s 0 0 (AA b0)) (F0 m 7 ls []) := by
  have hx := C.1
  have hb := C.2.1
  induction n with
  | zero => intro l2 σ H locs ls hS hW hl h; exact False.elim h
  | succ n hK7 =>
    intro l2 σ H locs ls hS hW hl h
    replace h : X_X10_arrange_7_s G Qx l0 l1 (Lp (X_X10_arrange_7_s G Qx l0 l1) n) (l2, σ) := h
    unfold X_X10_arrange_7_s at h
    refine x_iload_n C hl dX10_arrange_7 rfl ?_
    refine x_aload_n C hl dX10_arrange_8 rfl ?_
    have t1 := h.1
    replace h := h.2
    refine x_get C hW (t := 9) (k := 5) t1 kl_9 (by decide) fl_X10_103 (v := .int (mI σ l1 5)) rfl dX10_arrange_9 ?_
    refine lv_icmp_ge hx hb dX10_arrange_12 (tgt := 120) rfl (fun hc => ?_) (fun hc => ?_)
    · replace h := h.1 hc
      exact r_v C hr hW hS h dX10_arrange_120
    · replace h := h.2 hc
      refine x_aload_n C hl dX10_arrange_15 rfl ?_
      refine x_get C hW (t := 9) (k := 1) t1 kl_9 (by decide) fl_X10_106 (v := rv b0 (mR σ l1 1)) rfl dX10_arrange_16 ?_
      refine x_iload_n C hl dX10_arrange_19 rfl ?_
      have t2 := h.1
      replace h := h.2
      have v3 := h.1
      replace h := h.2
      refine x_aald C hW (t := 105) (t0 := 6) t2 (by decide) rfl v3 dX10_arrange_20 ?_
      refine x_astore_n C hl dX10_arrange_21 (by decide) rfl (fun ls hl => ?_)
      refine x_aload_n C hl dX10_arrange_22 rfl ?_
      refine lv_iconst (v := (0 : Int32)) hx hb dX10_arrange_23 (by decide) ?_
      have t4 := h.1
      replace h := h.2
      have b6 := h.1
      replace h := h.2
      refine x_putI C hW hS (t := 7) (k := 9) t4 kl_7 (by decide) fl_X10_109 rfl rfl (bz_n b6) (bz_f b6) dX10_arrange_24 (fun H locs hW hS => ?_)
      obtain ⟨s5, e_s5⟩ : ∃ z : Mem, z = (sI σ (mR σ (mR σ l1 1) l2.toNatClampNeg) 9 (0 : Int32)) := ⟨_, rfl⟩
      replace h := h s5 e_s5
      replace hW : Wd G D tc b0 s5 H := by rw [e_s5]; exact hW
      refine x_aload_n C hl dX10_arrange_27 rfl ?_
      refine lv_iconst (v := (0 : Int32)) hx hb dX10_arrange_28 (by decide) ?_
      refine x_putI C hW hS (t := 7) (k := 10) t4 kl_7 (by decide) fl_X10_112 rfl rfl rfl rfl dX10_arrange_29 (fun H locs hW hS => ?_)
      obtain ⟨s7, e_s7⟩ : ∃ z : Mem, z = (sI s5 (mR σ (mR σ l1 1) l2.toNatClampNeg) 10 (0 : Int32)) := ⟨_, rfl⟩
      replace h := h s7 e_s7
      replace hW : Wd G D tc b0 s7 H := by rw [e_s7]; exact hW
      refine x_aload_n C hl dX10_arrange_32 rfl ?_
      refine y_i (x_run (As := []) C hW hS (T_X7_isLive l (mR σ (mR σ l1 1) l2.toNatClampNeg) s7 _ h) t4 kl_7 (CW.of yv_X7_isLive ml_X10_115) ⟨rfl, rfl, ⟨by decide, by decide⟩, by decide, by decide⟩ rfl hl.1 rfl (by decide) dX10_arrange_33) hS (fun w9 s8 H locs h hW hS => ?_)
      refine lv_if_ne hx hb dX10_arrange_36 (tgt := 47) rfl (fun hc => ?_) (fun hc => ?_)
      · replace h := h.2 hc
        exact t_X10_arrange_47 C hr hK7 hS hW (hl.keep [true, true, true, true, false] rfl) h
      · replace h := h.1 hc
        refine x_aload_n C hl dX10_arrange_39 rfl ?_
        refine x_get C hW (t := 7) (k := 1) t4 kl_7 (by decide) fl_X10_118 (v := .int (mI s8 (mR σ (mR σ l1 1) l2.toNatClampNeg) 1)) rfl dX10_arrange_40 ?_
        refine lv_iconst (v := (3 : Int32)) hx hb dX10_arrange_43 (by decide) ?_
        refine lv_icmp_ne hx hb dX10_arrange_44 (tgt := 114) rfl (fun hc => ?_) (fun hc => ?_)
        · replace h := h.2 hc
          exact t_X10_arrange_114 C hr hK7 hS hW (hl.keep [true, true, true, false, false] rfl) h
        · replace h := h.1 hc
          exact t_X10_arrange_47 C hr hK7 hS hW (hl.keep [true, true, true, true, false] rfl) h
set_option maxRecDepth 20000 in
set_option maxHeartbeats 4000000 in
theorem t_X10_arrange_7 {p : Program} {l : Launch} {e : Env} {s : State} {m : MethodId} {args : Array Value} {below : List Frame} {meth : Method} {c : Code} {H : Heap} {locs : List Loc} {D : va_G} {tc : Nat → ClassId} {b0 : Nat} {ls : Array Slot} {G : Lay} {Qx : Mem → Prop} {l0 : Nat} {l1 : Nat} {l2 : Int32}  {σ : Mem} (C : Cx p s m args meth c cX10_arrange RX10 5 D tc b0) (hr : meth.sig.returnType = (none : Option FieldType)) (hS : va_S (AA b0) s.heap H locs) (hW : Wd G D tc b0 σ H) (hl : hL b0 ls 5 [some (.inr (.inr l0)), some (.inr (.inr l1)), some (.inl l2), none, none]) (h : X_X10_arrange_7 G Qx l0 l1 l2 σ) : W p l e rm_X10_arrange s m args below meth c H locs 0 0 (MQ below (va_Qv Qx (fun u t => Pw G D tc b0 u t) (AA b0)) args s 0 0 (AA b0)) (F0 m 7 ls []) := by
  obtain ⟨n, h⟩ := h
  exact t_X10_arrange_7_n C hr n l2 σ H locs ls hS hW hl h
set_option maxRecDepth 20000 in
set_option maxHeartbeats 4000000 in
theorem t_X10_arrange_0 {p : Program} {l : Launch} {e : Env} {s : State} {m : MethodId} {args : Array Value} {below : List Frame} {meth : Method} {c : Code} {H : Heap} {locs : List Loc} {D : va_G} {tc : Nat → ClassId} {b0 : Nat} {ls : Array Slot} {G : Lay} {Qx : Mem → Prop} {l0 : Nat} {l1 : Nat}  {σ : Mem} (C : Cx p s m args meth c cX10_arrange RX10 5 D tc b0) (hr : meth.sig.returnType = (none : Option FieldType)) (hS : va_S (AA b0) s.heap H locs) (hW : Wd G D tc b0 σ H) (hl : hL b0 ls 5 [some (.inr (.inr l0)), some (.inr (.inr l1)), none, none, none]) (h : X_X10_arrange_0 G Qx l0 l1  σ) : W p l e rm_X10_arrange s m args below meth c H locs 0 0 (MQ below (va_Qv Qx (fun u t => Pw G D tc b0 u t) (AA b0)) args s 0 0 (AA b0)) (F0 m 0 ls []) := by
  have hx := C.1
  have hb := C.2.1
  unfold X_X10_arrange_0 at h
  refine x_aload_n C hl dX10_arrange_0 rfl ?_
  refine lv_iconst (v := (0 : Int32)) hx hb dX10_arrange_1 (by decide) ?_
  have t1 := h.1
  replace h := h.2
  refine x_putI C hW hS (t := 10) (k := 3) t1 kl_10 (by decide) fl_X10_100 rfl rfl rfl rfl dX10_arrange_2 (fun H locs hW hS => ?_)
  obtain ⟨s2, e_s2⟩ : ∃ z : Mem, z = (sI σ l0 3 (0 : Int32)) := ⟨_, rfl⟩
  replace h := h s2 e_s2
  replace hW : Wd G D tc b0 s2 H := by rw [e_s2]; exact hW
  refine lv_iconst (v := (0 : Int32)) hx hb dX10_arrange_5 (by decide) ?_
  refine x_istore_n C hl dX10_arrange_6 (by decide) rfl (fun ls hl => ?_)
  exact t_X10_arrange_7 C hr hS hW (hl.keep [true, true, true, false, false] rfl) h
theorem T_X10_arrange (l : Launch) {G : Lay} {D : va_G} {tc : Nat → ClassId} {b0 : Nat} (l0 : Nat) (l1 : Nat) (σ : Mem) (Qx : Mem → Prop) (h : X_X10_arrange G Qx l0 l1 σ) : MV l yX10_arrange cX10_arrange 5 ((none : Option FieldType)) rm_X10_arrange G D tc b0 [rv b0 l0, rv b0 l1] σ Qx :=
  x_entry (y := yX10_arrange) [.inr (.inr l0), .inr (.inr l1)] 3 (by decide) (Nat.le_of_ble_eq_true rfl) (fun p e s m args below meth c ls C hr hW hl => t_X10_arrange_0 C hr va_S.rf hW (hl.keep [true, true, false, false, false] rfl) h)
/-! X10_runHooks -/
set_option maxRecDepth 20000 in
set_option maxHeartbeats 4000000 in
theorem t_X10_runHooks_58 {p : Program} {l : Launch} {e : Env} {s : State} {m : MethodId} {args : Array Value} {below : List Frame} {meth : Method} {c : Code} {H : Heap} {locs : List Loc} {D : va_G} {tc : Nat → ClassId} {b0 : Nat} {ls : Array Slot} {G : Lay} {Qx : Mem → Prop} {l0 : Nat} {l1 : Int32} {l2 : Int32}  {K2 : Int32 × Mem → Prop} {σ : Mem} (C : Cx p s m args meth c cX10_runHooks RX10 4 D tc b0) (hr : meth.sig.returnType = (none : Option FieldType)) (hK2 : ∀ (x2 : Int32) (σ : Mem) (H : Heap) (locs : List Loc) (ls : Array Slot), va_S (AA b0) s.heap H locs → Wd G D tc b0 σ H → hL b0 ls 4 [some (.inr (.inr l0)), some (.inl l1), some (.inl x2), none] → K2 (x2, σ) → W p l e rm_X10_runHooks s m args below meth c H locs 0 0 (MQ below (va_Qv Qx (fun u t => Pw G D tc b0 u t) (AA b0)) args s 0 0 (AA b0)) (F0 m 2 ls [])) (hS : va_S (AA b0) s.heap H locs) (hW : Wd G D tc b0 σ H) (hl : hL b0 ls 4 [some (.inr (.inr l0)), some (.inl l1), some (.inl l2), none]) (h : X_X10_runHooks_58 G Qx K2 l0 l1 l2  σ) : W p l e rm_X10_runHooks s m args below meth c H locs 0 0 (MQ below (va_Qv Qx (fun u t => Pw G D tc b0 u t) (AA b0)) args s 0 0 (AA b0)) (F0 m 58 ls []) := by
  have hx := C.1
  have hb := C.2.1
  unfold X_X10_runHooks_58 at h
  refine x_iinc C hl dX10_runHooks_58 rfl (v := (1 : Int32)) (by decide) (by decide) rfl (fun ls hl => ?_)
  refine lv_goto hx hb dX10_runHooks_61 (tgt := 2) rfl ?_
  exact hK2 _ _ _ _ _ hS hW (hl.keep [true, true, true, false] rfl) h
set_option maxRecDepth 20000 in
set_option maxHeartbeats 4000000 in
theorem t_X10_runHooks_55 {p : Program} {l : Launch} {e : Env} {s : State} {m : MethodId} {args : Array Value} {below : List Frame} {meth : Method} {c : Code} {H : Heap} {locs : List Loc} {D : va_G} {tc : Nat → ClassId} {b0 : Nat} {ls : Array Slot} {G : Lay} {Qx : Mem → Prop} {l0 : Nat} {l1 : Int32} {l2 : Int32} {k0 : Nat} {k1 : Nat} {k2 : Int32} {K2 : Int32 × Mem → Prop} {σ : Mem} (C : Cx p s m args meth c cX10_runHooks RX10 4 D tc b0) (hr : meth.sig.returnType = (none : Option FieldType)) (hK2 : ∀ (x2 : Int32) (σ : Mem) (H : Heap) (locs : List Loc) (ls : Array Slot), va_S (AA b0) s.heap H locs → Wd G D tc b0 σ H → hL b0 ls 4 [some (.inr (.inr l0)), some (.inl l1), some (.inl x2), none] → K2 (x2, σ) → W p l e rm_X10_runHooks s m args below meth c H locs 0 0 (MQ below (va_Qv Qx (fun u t => Pw G D tc b0 u t) (AA b0)) args s 0 0 (AA b0)) (F0 m 2 ls [])) (hS : va_S (AA b0) s.heap H locs) (hW : Wd G D tc b0 σ H) (hl : hL b0 ls 4 [some (.inr (.inr l0)), some (.inl l1), some (.inl l2), none]) (h : X_X10_runHooks_55 G Qx K2 l0 l1 l2 k0 k1 k2 σ) : W p l e rm_X10_runHooks s m args below meth c H locs 0 0 (MQ below (va_Qv Qx (fun u t => Pw G D tc b0 u t) (AA b0)) args s 0 0 (AA b0)) (F0 m 55 ls [.int k2, rv b0 k1, rv b0 k0]) := by
  have hx := C.1
  have hb := C.2.1
  unfold X_X10_runHooks_55 at h
  have t1 := h.1
  replace h := h.2
  refine y_v (x_run (As := [rv b0 k1, .int k2]) C hW hS (T_X6_runHooks l k0 k1 k2 σ _ h) t1 kl_6 (CW.of yv_X6_runHooks ml_X10_129) ⟨rfl, rfl, ⟨by decide, by decide⟩, by decide, by decide⟩ rfl hl.1 rfl (by decide) dX10_runHooks_55) hS (fun s2 H locs h hW hS => ?_)
  exact t_X10_runHooks_58 C hr hK2 hS hW (hl.keep [true, true, true, false] rfl) h
set_option maxRecDepth 20000 in
set_option maxHeartbeats 4000000 in
theorem t_X10_runHooks_37 {p : Program} {l : Launch} {e : Env} {s : State} {m : MethodId} {args : Array Value} {below : List Frame} {meth : Method} {c : Code} {H : Heap} {locs : List Loc} {D : va_G} {tc : Nat → ClassId} {b0 : Nat} {ls : Array Slot} {G : Lay} {Qx : Mem → Prop} {l0 : Nat} {l1 : Int32} {l2 : Int32} {l3 : Nat}  {K2 : Int32 × Mem → Prop} {σ : Mem} (C : Cx p s m args meth c cX10_runHooks RX10 4 D tc b0) (hr : meth.sig.returnType = (none : Option FieldType)) (hK2 : ∀ (x2 : Int32) (σ : Mem) (H : Heap) (locs : List Loc) (ls : Array Slot), va_S (AA b0) s.heap H locs → Wd G D tc b0 σ H → hL b0 ls 4 [some (.inr (.inr l0)), some (.inl l1), some (.inl x2), none] → K2 (x2, σ) → W p l e rm_X10_runHooks s m args below meth c H locs 0 0 (MQ below (va_Qv Qx (fun u t => Pw G D tc b0 u t) (AA b0)) args s 0 0 (AA b0)) (F0 m 2 ls [])) (hS : va_S (AA b0) s.heap H locs) (hW : Wd G D tc b0 σ H) (hl : hL b0 ls 4 [some (.inr (.inr l0)), some (.inl l1), some (.inl l2), some (.inr (.inr l3))]) (h : X_X10_runHooks_37 G Qx K2 l0 l1 l2 l3  σ) : W p l e rm_X10_runHooks s m args below meth c H locs 0 0 (MQ below (va_Qv Qx (fun u t => Pw G D tc b0 u t) (AA b0)) args s 0 0 (AA b0)) (F0 m 37 ls []) := by
  have hx := C.1
  have hb := C.2.1
  unfold X_X10_runHooks_37 at h
  refine x_aload_n C hl dX10_runHooks_37 rfl ?_
  have t1 := h.1
  replace h := h.2
  refine x_get C hW (t := 10) (k := 0) t1 kl_10 (by decide) fl_X10_43 (v := rv b0 (mR σ l0 0)) rfl dX10_runHooks_38 ?_
  have t2 := h.1
  replace h := h.2
  refine x_get C hW (t := 5) (k := 0) t2 kl_5 (by decide) fl_X10_49 (v := rv b0 (mR σ (mR σ l0 0) 0)) rfl dX10_runHooks_41 ?_
  refine x_aload_n C hl dX10_runHooks_44 rfl ?_
  refine x_iload_n C hl dX10_runHooks_45 rfl ?_
  refine lv_iconst (v := (2 : Int32)) hx hb dX10_runHooks_46 (by decide) ?_
  refine lv_icmp_ne hx hb dX10_runHooks_47 (tgt := 54) rfl (fun hc => ?_) (fun hc => ?_)
  · replace h := h.2 hc
    refine lv_iconst (v := (0 : Int32)) hx hb dX10_runHooks_54 (by decide) ?_
    exact t_X10_runHooks_55 C hr hK2 hS hW (hl.keep [true, true, true, false] rfl) h
  · replace h := h.1 hc
    refine lv_iconst (v := (1 : Int32)) hx hb dX10_runHooks_50 (by decide) ?_
    refine lv_goto hx hb dX10_runHooks_51 (tgt := 55) rfl ?_
    exact t_X10_runHooks_55 C hr hK2 hS hW (hl.keep [true, true, true, false] rfl) h
set_option maxRecDepth 20000 in
set_option maxHeartbeats 4000000 in
theorem t_X10_runHooks_2_n {p : Program} {l : Launch} {e : Env} {s : State} {m : MethodId} {args : Array Value} {below : List Frame} {meth : Method} {c : Code} {D : va_G} {tc : Nat → ClassId} {b0 : Nat} {G : Lay} {Qx : Mem → Prop} {l0 : Nat} {l1 : Int32} (C : Cx p s m args meth c cX10_runHooks RX10 4 D tc b0) (hr : meth.sig.returnType = (none : Option FieldType)) (n : Nat) : ∀ (l2 : Int32) (σ : Mem) (H : Heap) (locs : List Loc) (ls : Array Slot), va_S (AA b0) s.heap H locs → Wd G D tc b0 σ H → hL b0 ls 4 [some (.inr (.inr l0)), some (.inl l1), some (.inl l2), none] → Lp (X_X10_runHooks_2_s G Qx l0 l1) n (l2, σ) → W p l e rm_X10_runHooks s m args below meth c H locs 0 0 (MQ below (va_Qv Qx (fun u t => Pw G D tc b0 u t) (AA b0)) args s 0 0 (AA b0)) (F0 m 2 ls []) := by
  have hx := C.1
  have hb := C.2.1
  induction n with
  | zero => intro l2 σ H locs ls hS hW hl h; exact False.elim h
  | succ n hK2 =>
    intro l2 σ H locs ls hS hW hl h
    replace h : X_X10_runHooks_2_s G Qx l0 l1 (Lp (X_X10_runHooks_2_s G Qx l0 l1) n) (l2, σ) := h
    unfold X_X10_runHooks_2_s at h
    refine x_iload_n C hl dX10_runHooks_2 rfl ?_
    refine x_aload_n C hl dX10_runHooks_3 rfl ?_
    have t1 := h.1
    replace h := h.2
    refine x_get C hW (t := 10) (k := 3) t1 kl_10 (by decide) fl_X10_100 (v := .int (mI σ l0 3)) rfl dX10_runHooks_4 ?_
    refine lv_icmp_ge hx hb dX10_runHooks_7 (tgt := 64) rfl (fun hc => ?_) (fun hc => ?_)
    · replace h := h.1 hc
      exact r_v C hr hW hS h dX10_runHooks_64
    · replace h := h.2 hc
      refine x_aload_n C hl dX10_runHooks_10 rfl ?_
      refine x_get C hW (t := 10) (k := 2) t1 kl_10 (by decide) fl_X10_11 (v := rv b0 (mR σ l0 2)) rfl dX10_runHooks_11 ?_
      refine x_iload_n C hl dX10_runHooks_14 rfl ?_
      have t2 := h.1
      replace h := h.2
      have v3 := h.1
      replace h := h.2
      refine x_aald C hW (t := 105) (t0 := 6) t2 (by decide) rfl v3 dX10_runHooks_15 ?_
      refine x_astore_n C hl dX10_runHooks_16 (by decide) rfl (fun ls hl => ?_)
      refine x_aload_n C hl dX10_runHooks_17 rfl ?_
      have t4 := h.1
      replace h := h.2
      refine x_get C hW (t := 7) (k := 1) t4 kl_7 (by decide) fl_X10_118 (v := .int (mI σ (mR σ (mR σ l0 2) l2.toNatClampNeg) 1)) rfl dX10_runHooks_18 ?_
      refine x_iload_n C hl dX10_runHooks_21 rfl ?_
      refine lv_icmp_ne hx hb dX10_runHooks_22 (tgt := 58) rfl (fun hc => ?_) (fun hc => ?_)
      · replace h := h.2 hc
        exact t_X10_runHooks_58 C hr hK2 hS hW (hl.keep [true, true, true, false] rfl) h
      · replace h := h.1 hc
        refine x_iload_n C hl dX10_runHooks_25 rfl ?_
        refine lv_iconst (v := (2 : Int32)) hx hb dX10_runHooks_26 (by decide) ?_
        refine lv_icmp_eq hx hb dX10_runHooks_27 (tgt := 37) rfl (fun hc => ?_) (fun hc => ?_)
        · replace h := h.1 hc
          exact t_X10_runHooks_37 C hr hK2 hS hW (hl.keep [true, true, true, true] rfl) h
        · replace h := h.2 hc
          refine x_aload_n C hl dX10_runHooks_30 rfl ?_
          refine y_i (x_run (As := []) C hW hS (T_X7_changes l (mR σ (mR σ l0 2) l2.toNatClampNeg) σ _ h) t4 kl_7 (CW.of yv_X7_changes ml_X10_125) ⟨rfl, rfl, ⟨by decide, by decide⟩, by decide, by decide⟩ rfl hl.1 rfl (by decide) dX10_runHooks_31) hS (fun w6 s5 H locs h hW hS => ?_)
          refine lv_if_eq hx hb dX10_runHooks_34 (tgt := 58) rfl (fun hc => ?_) (fun hc => ?_)
          · replace h := h.1 hc
            exact t_X10_runHooks_58 C hr hK2 hS hW (hl.keep [true, true, true, false] rfl) h
          · replace h := h.2 hc
            exact t_X10_runHooks_37 C hr hK2 hS hW (hl.keep [true, true, true, true] rfl) h
set_option maxRecDepth 20000 in
set_option maxHeartbeats 4000000 in
theorem t_X10_runHooks_2 {p : Program} {l : Launch} {e : Env} {s : State} {m : MethodId} {args : Array Value} {below : List Frame} {meth : Method} {c : Code} {H : Heap} {locs : List Loc} {D : va_G} {tc : Nat → ClassId} {b0 : Nat} {ls : Array Slot} {G : Lay} {Qx : Mem → Prop} {l0 : Nat} {l1 : Int32} {l2 : Int32}  {σ : Mem} (C : Cx p s m args meth c cX10_runHooks RX10 4 D tc b0) (hr : meth.sig.returnType = (none : Option FieldType)) (hS : va_S (AA b0) s.heap H locs) (hW : Wd G D tc b0 σ H) (hl : hL b0 ls 4 [some (.inr (.inr l0)), some (.inl l1), some (.inl l2), none]) (h : X_X10_runHooks_2 G Qx l0 l1 l2 σ) : W p l e rm_X10_runHooks s m args below meth c H locs 0 0 (MQ below (va_Qv Qx (fun u t => Pw G D tc b0 u t) (AA b0)) args s 0 0 (AA b0)) (F0 m 2 ls []) := by
  obtain ⟨n, h⟩ := h
  exact t_X10_runHooks_2_n C hr n l2 σ H locs ls hS hW hl h
set_option maxRecDepth 20000 in
set_option maxHeartbeats 4000000 in
theorem t_X10_runHooks_0 {p : Program} {l : Launch} {e : Env} {s : State} {m : MethodId} {args : Array Value} {below : List Frame} {meth : Method} {c : Code} {H : Heap} {locs : List Loc} {D : va_G} {tc : Nat → ClassId} {b0 : Nat} {ls : Array Slot} {G : Lay} {Qx : Mem → Prop} {l0 : Nat} {l1 : Int32}  {σ : Mem} (C : Cx p s m args meth c cX10_runHooks RX10 4 D tc b0) (hr : meth.sig.returnType = (none : Option FieldType)) (hS : va_S (AA b0) s.heap H locs) (hW : Wd G D tc b0 σ H) (hl : hL b0 ls 4 [some (.inr (.inr l0)), some (.inl l1), none, none]) (h : X_X10_runHooks_0 G Qx l0 l1  σ) : W p l e rm_X10_runHooks s m args below meth c H locs 0 0 (MQ below (va_Qv Qx (fun u t => Pw G D tc b0 u t) (AA b0)) args s 0 0 (AA b0)) (F0 m 0 ls []) := by
  have hx := C.1
  have hb := C.2.1
  unfold X_X10_runHooks_0 at h
  refine lv_iconst (v := (0 : Int32)) hx hb dX10_runHooks_0 (by decide) ?_
  refine x_istore_n C hl dX10_runHooks_1 (by decide) rfl (fun ls hl => ?_)
  exact t_X10_runHooks_2 C hr hS hW (hl.keep [true, true, true, false] rfl) h
theorem T_X10_runHooks (l : Launch) {G : Lay} {D : va_G} {tc : Nat → ClassId} {b0 : Nat} (l0 : Nat) (l1 : Int32) (σ : Mem) (Qx : Mem → Prop) (h : X_X10_runHooks G Qx l0 l1 σ) : MV l yX10_runHooks cX10_runHooks 4 ((none : Option FieldType)) rm_X10_runHooks G D tc b0 [rv b0 l0, .int l1] σ Qx :=
  x_entry (y := yX10_runHooks) [.inr (.inr l0), .inl l1] 2 (by decide) (Nat.le_of_ble_eq_true rfl) (fun p e s m args below meth c ls C hr hW hl => t_X10_runHooks_0 C hr va_S.rf hW (hl.keep [true, true, false, false] rfl) h)
/-! X10_countIn -/
set_option maxRecDepth 20000 in
set_option maxHeartbeats 4000000 in
theorem t_X10_countIn_28 {p : Program} {l : Launch} {e : Env} {s : State} {m : MethodId} {args : Array Value} {below : List Frame} {meth : Method} {c : Code} {H : Heap} {locs : List Loc} {D : va_G} {tc : Nat → ClassId} {b0 : Nat} {ls : Array Slot} {G : Lay} {Qx : Int32 → Mem → Prop} {l0 : Nat} {l1 : Int32} {l2 : Int32} {l3 : Int32}  {K4 : Int32 × Int32 × Mem → Prop} {σ : Mem} (C : Cx p s m args meth c cX10_countIn RX10 4 D tc b0) (hr : meth.sig.returnType = (some FieldType.int)) (hK4 : ∀ (x2 : Int32) (x3 : Int32) (σ : Mem) (H : Heap) (locs : List Loc) (ls : Array Slot), va_S (AA b0) s.heap H locs → Wd G D tc b0 σ H → hL b0 ls 4 [some (.inr (.inr l0)), some (.inl l1), some (.inl x2), some (.inl x3)] → K4 (x2, x3, σ) → W p l e rm_X10_countIn s m args below meth c H locs 0 0 (MQ below (va_Qi Qx (fun u t => Pw G D tc b0 u t) (AA b0)) args s 0 0 (AA b0)) (F0 m 4 ls [])) (hS : va_S (AA b0) s.heap H locs) (hW : Wd G D tc b0 σ H) (hl : hL b0 ls 4 [some (.inr (.inr l0)), some (.inl l1), some (.inl l2), some (.inl l3)]) (h : X_X10_countIn_28 G Qx K4 l0 l1 l2 l3  σ) : W p l e rm_X10_countIn s m args below meth c H locs 0 0 (MQ below (va_Qi Qx (fun u t => Pw G D tc b0 u t) (AA b0)) args s 0 0 (AA b0)) (F0 m 28 ls []) := by
  have hx := C.1
  have hb := C.2.1
  unfold X_X10_countIn_28 at h
  refine x_iinc C hl dX10_countIn_28 rfl (v := (1 : Int32)) (by decide) (by decide) rfl (fun ls hl => ?_)
  refine lv_goto hx hb dX10_countIn_31 (tgt := 4) rfl ?_
  exact hK4 _ _ _ _ _ _ hS hW (hl.keep [true, true, true, true] rfl) h
set_option maxRecDepth 20000 in
set_option maxHeartbeats 4000000 in
theorem t_X10_countIn_4_n {p : Program} {l : Launch} {e : Env} {s : State} {m : MethodId} {args : Array Value} {below : List Frame} {meth : Method} {c : Code} {D : va_G} {tc : Nat → ClassId} {b0 : Nat} {G : Lay} {Qx : Int32 → Mem → Prop} {l0 : Nat} {l1 : Int32} (C : Cx p s m args meth c cX10_countIn RX10 4 D tc b0) (hr : meth.sig.returnType = (some FieldType.int)) (n : Nat) : ∀ (l2 : Int32) (l3 : Int32) (σ : Mem) (H : Heap) (locs : List Loc) (ls : Array Slot), va_S (AA b0) s.heap H locs → Wd G D tc b0 σ H → hL b0 ls 4 [some (.inr (.inr l0)), some (.inl l1), some (.inl l2), some (.inl l3)] → Lp (X_X10_countIn_4_s G Qx l0 l1) n (l2, l3, σ) → W p l e rm_X10_countIn s m args below meth c H locs 0 0 (MQ below (va_Qi Qx (fun u t => Pw G D tc b0 u t) (AA b0)) args s 0 0 (AA b0)) (F0 m 4 ls []) := by
  have hx := C.1
  have hb := C.2.1
  induction n with
  | zero => intro l2 l3 σ H locs ls hS hW hl h; exact False.elim h
  | succ n hK4 =>
    intro l2 l3 σ H locs ls hS hW hl h
    replace h : X_X10_countIn_4_s G Qx l0 l1 (Lp (X_X10_countIn_4_s G Qx l0 l1) n) (l2, l3, σ) := h
    unfold X_X10_countIn_4_s at h
    refine x_iload_n C hl dX10_countIn_4 rfl ?_
    refine x_aload_n C hl dX10_countIn_5 rfl ?_
    have t1 := h.1
    replace h := h.2
    refine x_get C hW (t := 10) (k := 3) t1 kl_10 (by decide) fl_X10_100 (v := .int (mI σ l0 3)) rfl dX10_countIn_6 ?_
    refine lv_icmp_ge hx hb dX10_countIn_9 (tgt := 34) rfl (fun hc => ?_) (fun hc => ?_)
    · replace h := h.1 hc
      refine x_iload_n C hl dX10_countIn_34 rfl ?_
      exact r_i C hr hW hS h dX10_countIn_35
    · replace h := h.2 hc
      refine x_aload_n C hl dX10_countIn_12 rfl ?_
      refine x_get C hW (t := 10) (k := 2) t1 kl_10 (by decide) fl_X10_11 (v := rv b0 (mR σ l0 2)) rfl dX10_countIn_13 ?_
      refine x_iload_n C hl dX10_countIn_16 rfl ?_
      have t2 := h.1
      replace h := h.2
      have v3 := h.1
      replace h := h.2
      refine x_aald C hW (t := 105) (t0 := 6) t2 (by decide) rfl v3 dX10_countIn_17 ?_
      have t4 := h.1
      replace h := h.2
      refine x_get C hW (t := 7) (k := 1) t4 kl_7 (by decide) fl_X10_118 (v := .int (mI σ (mR σ (mR σ l0 2) l3.toNatClampNeg) 1)) rfl dX10_countIn_18 ?_
      refine x_iload_n C hl dX10_countIn_21 rfl ?_
      refine lv_icmp_ne hx hb dX10_countIn_22 (tgt := 28) rfl (fun hc => ?_) (fun hc => ?_)
      · replace h := h.2 hc
        exact t_X10_countIn_28 C hr hK4 hS hW (hl.keep [true, true, true, true] rfl) h
      · replace h := h.1 hc
        refine x_iinc C hl dX10_countIn_25 rfl (v := (1 : Int32)) (by decide) (by decide) rfl (fun ls hl => ?_)
        exact t_X10_countIn_28 C hr hK4 hS hW (hl.keep [true, true, true, true] rfl) h
set_option maxRecDepth 20000 in
set_option maxHeartbeats 4000000 in
theorem t_X10_countIn_4 {p : Program} {l : Launch} {e : Env} {s : State} {m : MethodId} {args : Array Value} {below : List Frame} {meth : Method} {c : Code} {H : Heap} {locs : List Loc} {D : va_G} {tc : Nat → ClassId} {b0 : Nat} {ls : Array Slot} {G : Lay} {Qx : Int32 → Mem → Prop} {l0 : Nat} {l1 : Int32} {l2 : Int32} {l3 : Int32}  {σ : Mem} (C : Cx p s m args meth c cX10_countIn RX10 4 D tc b0) (hr : meth.sig.returnType = (some FieldType.int)) (hS : va_S (AA b0) s.heap H locs) (hW : Wd G D tc b0 σ H) (hl : hL b0 ls 4 [some (.inr (.inr l0)), some (.inl l1), some (.inl l2), some (.inl l3)]) (h : X_X10_countIn_4 G Qx l0 l1 l2 l3 σ) : W p l e rm_X10_countIn s m args below meth c H locs 0 0 (MQ below (va_Qi Qx (fun u t => Pw G D tc b0 u t) (AA b0)) args s 0 0 (AA b0)) (F0 m 4 ls []) := by
  obtain ⟨n, h⟩ := h
  exact t_X10_countIn_4_n C hr n l2 l3 σ H locs ls hS hW hl h
set_option maxRecDepth 20000 in
set_option maxHeartbeats 4000000 in
theorem t_X10_countIn_0 {p : Program} {l : Launch} {e : Env} {s : State} {m : MethodId} {args : Array Value} {below : List Frame} {meth : Method} {c : Code} {H : Heap} {locs : List Loc} {D : va_G} {tc : Nat → ClassId} {b0 : Nat} {ls : Array Slot} {G : Lay} {Qx : Int32 → Mem → Prop} {l0 : Nat} {l1 : Int32}  {σ : Mem} (C : Cx p s m args meth c cX10_countIn RX10 4 D tc b0) (hr : meth.sig.returnType = (some FieldType.int)) (hS : va_S (AA b0) s.heap H locs) (hW : Wd G D tc b0 σ H) (hl : hL b0 ls 4 [some (.inr (.inr l0)), some (.inl l1), none, none]) (h : X_X10_countIn_0 G Qx l0 l1  σ) : W p l e rm_X10_countIn s m args below meth c H locs 0 0 (MQ below (va_Qi Qx (fun u t => Pw G D tc b0 u t) (AA b0)) args s 0 0 (AA b0)) (F0 m 0 ls []) := by
  have hx := C.1
  have hb := C.2.1
  unfold X_X10_countIn_0 at h
  refine lv_iconst (v := (0 : Int32)) hx hb dX10_countIn_0 (by decide) ?_
  refine x_istore_n C hl dX10_countIn_1 (by decide) rfl (fun ls hl => ?_)
  refine lv_iconst (v := (0 : Int32)) hx hb dX10_countIn_2 (by decide) ?_
  refine x_istore_n C hl dX10_countIn_3 (by decide) rfl (fun ls hl => ?_)
  exact t_X10_countIn_4 C hr hS hW (hl.keep [true, true, true, true] rfl) h
theorem T_X10_countIn (l : Launch) {G : Lay} {D : va_G} {tc : Nat → ClassId} {b0 : Nat} (l0 : Nat) (l1 : Int32) (σ : Mem) (Qx : Int32 → Mem → Prop) (h : X_X10_countIn G Qx l0 l1 σ) : MI l yX10_countIn cX10_countIn 4 ((some FieldType.int)) rm_X10_countIn G D tc b0 [rv b0 l0, .int l1] σ Qx :=
  x_entry (y := yX10_countIn) [.inr (.inr l0), .inl l1] 2 (by decide) (Nat.le_of_ble_eq_true rfl) (fun p e s m args below meth c ls C hr hW hl => t_X10_countIn_0 C hr va_S.rf hW (hl.keep [true, true, false, false] rfl) h)
/-! X10_earlyReferences -/
set_option maxRecDepth 20000 in
set_option maxHeartbeats 4000000 in
theorem t_X10_earlyReferences_129 {p : Program} {l : Launch} {e : Env} {s : State} {m : MethodId} {args : Array Value} {below : List Frame} {meth : Method} {c : Code} {H : Heap} {locs : List Loc} {D : va_G} {tc : Nat → ClassId} {b0 : Nat} {ls : Array Slot} {G : Lay} {Qx : Int32 → Mem → Prop} {l0 : Nat} {l1 : Nat} {l2 : Nat} {l3 : Nat} {l4 : Int32} {l5 : Int32}  {K22 : Int32 × Int32 × Mem → Prop} {σ : Mem} (C : Cx p s m args meth c cX10_earlyReferences RX10 8 D tc b0) (hr : meth.sig.returnType = (some FieldType.int)) (hK22 : ∀ (x4 : Int32) (x5 : Int32) (σ : Mem) (H : Heap) (locs : List Loc) (ls : Array Slot), va_S (AA b0) s.heap H locs → Wd G D tc b0 σ H → hL b0 ls 8 [some (.inr (.inr l0)), some (.inr (.inr l1)), some (.inr (.inr l2)), some (.inr (.inr l3)), some (.inl x4), some (.inl x5), none, none] → K22 (x4, x5, σ) → W p l e rm_X10_earlyReferences s m args below meth c H locs 0 0 (MQ below (va_Qi Qx (fun u t => Pw G D tc b0 u t) (AA b0)) args s 0 0 (AA b0)) (F0 m 22 ls [])) (hS : va_S (AA b0) s.heap H locs) (hW : Wd G D tc b0 σ H) (hl : hL b0 ls 8 [some (.inr (.inr l0)), some (.inr (.inr l1)), some (.inr (.inr l2)), some (.inr (.inr l3)), some (.inl l4), some (.inl l5), none, none]) (h : X_X10_earlyReferences_129 G Qx K22 l0 l1 l2 l3 l4 l5  σ) : W p l e rm_X10_earlyReferences s m args below meth c H locs 0 0 (MQ below (va_Qi Qx (fun u t => Pw G D tc b0 u t) (AA b0)) args s 0 0 (AA b0)) (F0 m 129 ls []) := by
  have hx := C.1
  have hb := C.2.1
  unfold X_X10_earlyReferences_129 at h
  refine x_iinc C hl dX10_earlyReferences_129 rfl (v := (1 : Int32)) (by decide) (by decide) rfl (fun ls hl => ?_)
  refine lv_goto hx hb dX10_earlyReferences_132 (tgt := 22) rfl ?_
  exact hK22 _ _ _ _ _ _ hS hW (hl.keep [true, true, true, true, true, true, false, false] rfl) h
set_option maxRecDepth 20000 in
set_option maxHeartbeats 4000000 in
theorem t_X10_earlyReferences_22_n {p : Program} {l : Launch} {e : Env} {s : State} {m : MethodId} {args : Array Value} {below : List Frame} {meth : Method} {c : Code} {D : va_G} {tc : Nat → ClassId} {b0 : Nat} {G : Lay} {Qx : Int32 → Mem → Prop} {l0 : Nat} {l1 : Nat} {l2 : Nat} {l3 : Nat} (C : Cx p s m args meth c cX10_earlyReferences RX10 8 D tc b0) (hr : meth.sig.returnType = (some FieldType.int)) (n : Nat) : ∀ (l4 : Int32) (l5 : Int32) (σ : Mem) (H : Heap) (locs : List Loc) (ls : Array Slot), va_S (AA b0) s.heap H locs → Wd G D tc b0 σ H → hL b0 ls 8 [some (.inr (.inr l0)), some (.inr (.inr l1)), some (.inr (.inr l2)), some (.inr (.inr l3)), some (.inl l4), some (.inl l5), none, none] → Lp (X_X10_earlyReferences_22_s G Qx l0 l1 l2 l3) n (l4, l5, σ) → W p l e rm_X10_earlyReferences s m args below meth c H locs 0 0 (MQ below (va_Qi Qx (fun u t => Pw G D tc b0 u t) (AA b0)) args s 0 0 (AA b0)) (F0 m 22 ls []) := by
  have hx := C.1
  have hb := C.2.1
  induction n with
  | zero => intro l4 l5 σ H locs ls hS hW hl h; exact False.elim h
  | succ n hK22 =>
    intro l4 l5 σ H locs ls hS hW hl h
    replace h : X_X10_earlyReferences_22_s G Qx l0 l1 l2 l3 (Lp (X_X10_earlyReferences_22_s G Qx l0 l1 l2 l3) n) (l4, l5, σ) := h
    unfold X_X10_earlyReferences_22_s at h
    refine x_iload C hl dX10_earlyReferences_22 rfl ?_
    refine x_aload_n C hl dX10_earlyReferences_24 rfl ?_
    have t1 := h.1
    replace h := h.2
    refine x_get C hW (t := 1) (k := 4) t1 kl_1 (by decide) fl_X10_167 (v := .int (mI σ l3 4)) rfl dX10_earlyReferences_25 ?_
    refine lv_icmp_ge hx hb dX10_earlyReferences_28 (tgt := 135) rfl (fun hc => ?_) (fun hc => ?_)
    · replace h := h.1 hc
      refine x_iload C hl dX10_earlyReferences_135 rfl ?_
      exact r_i C hr hW hS h dX10_earlyReferences_137
    · replace h := h.2 hc
      refine x_aload_n C hl dX10_earlyReferences_31 rfl ?_
      refine x_get C hW (t := 1) (k := 5) t1 kl_1 (by decide) fl_X10_172 (v := rv b0 (mR σ l3 5)) rfl dX10_earlyReferences_32 ?_
      refine x_iload C hl dX10_earlyReferences_35 rfl ?_
      have t2 := h.1
      replace h := h.2
      have v3 := h.1
      replace h := h.2
      refine x_aald C hW (t := 104) (t0 := 5) t2 (by decide) rfl v3 dX10_earlyReferences_37 ?_
      have t4 := h.1
      replace h := h.2
      refine x_get C hW (t := 2) (k := 2) t4 kl_2 (by decide) fl_X10_176 (v := .int (mI σ (mR σ (mR σ l3 5) l5.toNatClampNeg) 2)) rfl dX10_earlyReferences_38 ?_
      refine lv_iconst (v := (4 : Int32)) hx hb dX10_earlyReferences_41 (by decide) ?_
      refine lv_icmp_ne hx hb dX10_earlyReferences_42 (tgt := 129) rfl (fun hc => ?_) (fun hc => ?_)
      · replace h := h.2 hc
        exact t_X10_earlyReferences_129 C hr hK22 hS hW (hl.keep [true, true, true, true, true, true, false, false] rfl) h
      · replace h := h.1 hc
        refine x_aload_n C hl dX10_earlyReferences_45 rfl ?_
        have t5 := h.1
        replace h := h.2
        refine x_get C hW (t := 7) (k := 6) t5 kl_7 (by decide) fl_X10_181 (v := rv b0 (mR σ l2 6)) rfl dX10_earlyReferences_46 ?_
        refine x_iload C hl dX10_earlyReferences_49 rfl ?_
        have t6 := h.1
        replace h := h.2
        have v7 := h.1
        replace h := h.2
        refine x_iald C hW t6 v7 dX10_earlyReferences_51 ?_
        refine lv_if_eq hx hb dX10_earlyReferences_52 (tgt := 129) rfl (fun hc => ?_) (fun hc => ?_)
        · replace h := h.1 hc
          exact t_X10_earlyReferences_129 C hr hK22 hS hW (hl.keep [true, true, true, true, true, true, false, false] rfl) h
        · replace h := h.2 hc
          refine x_aload_n C hl dX10_earlyReferences_55 rfl ?_
          have t8 := h.1
          replace h := h.2
          refine x_get C hW (t := 10) (k := 0) t8 kl_10 (by decide) fl_X10_43 (v := rv b0 (mR σ l0 0)) rfl dX10_earlyReferences_56 ?_
          have t9 := h.1
          replace h := h.2
          refine x_get C hW (t := 5) (k := 0) t9 kl_5 (by decide) fl_X10_49 (v := rv b0 (mR σ (mR σ l0 0) 0)) rfl dX10_earlyReferences_59 ?_
          refine x_aload_n C hl dX10_earlyReferences_62 rfl ?_
          refine x_get C hW (t := 1) (k := 5) t1 kl_1 (by decide) fl_X10_172 (v := rv b0 (mR σ l3 5)) rfl dX10_earlyReferences_63 ?_
          refine x_iload C hl dX10_earlyReferences_66 rfl ?_
          refine x_aald C hW (t := 104) (t0 := 5) t2 (by decide) rfl v3 dX10_earlyReferences_68 ?_
          refine x_get C hW (t := 2) (k := 8) t4 kl_2 (by decide) fl_X10_184 (v := .int (mI σ (mR σ (mR σ l3 5) l5.toNatClampNeg) 8)) rfl dX10_earlyReferences_69 ?_
          have t10 := h.1
          replace h := h.2
          refine y_i (x_run (As := [.int (mI σ (mR σ (mR σ l3 5) l5.toNatClampNeg) 8)]) C hW hS (T_X6_rootOf l (mR σ (mR σ l0 0) 0) (mI σ (mR σ (mR σ l3 5) l5.toNatClampNeg) 8) σ _ h) t10 kl_6 (CW.of yv_X6_rootOf ml_X10_187) ⟨rfl, rfl, ⟨by decide, by decide⟩, by decide, by decide⟩ rfl hl.1 rfl (by decide) dX10_earlyReferences_72) hS (fun w12 s11 H locs h hW hS => ?_)
          refine x_istore C hl dX10_earlyReferences_75 (by decide) rfl (fun ls hl => ?_)
          refine x_aload_n C hl dX10_earlyReferences_77 rfl ?_
          refine x_iload C hl dX10_earlyReferences_78 rfl ?_
          refine x_aload_n C hl dX10_earlyReferences_80 rfl ?_
          refine x_get C hW (t := 7) (k := 6) t5 kl_7 (by decide) fl_X10_181 (v := rv b0 (mR s11 l2 6)) rfl dX10_earlyReferences_81 ?_
          refine x_iload C hl dX10_earlyReferences_84 rfl ?_
          have t13 := h.1
          replace h := h.2
          have v14 := h.1
          replace h := h.2
          refine x_iald C hW t13 v14 dX10_earlyReferences_86 ?_
          have t15 := h.1
          replace h := h.2
          refine y_r (x_run (As := [.int w12, .int (mI s11 (mR s11 l2 6) l5.toNatClampNeg)]) C hW hS (T_X9_thingFor l l1 w12 (mI s11 (mR s11 l2 6) l5.toNatClampNeg) s11 _ h) t15 kl_9 (CW.of yv_X9_thingFor ml_X10_190) ⟨rfl, rfl, ⟨by decide, by decide⟩, by decide, by decide⟩ rfl hl.1 rfl (by decide) dX10_earlyReferences_87) hS (fun w17 s16 H locs h hW hS => ?_)
          refine x_astore C hl dX10_earlyReferences_90 (by decide) rfl (fun ls hl => ?_)
          refine x_aload C hl dX10_earlyReferences_92 rfl ?_
          refine x_ifnull C dX10_earlyReferences_94 (tgt := 129) rfl (fun hc => ?_) (fun hc => ?_)
          · replace h := h.1 hc
            exact t_X10_earlyReferences_129 C hr hK22 hS hW (hl.keep [true, true, true, true, true, true, false, false] rfl) h
          · replace h := h.2 hc
            refine x_aload C hl dX10_earlyReferences_97 rfl ?_
            refine x_aload_n C hl dX10_earlyReferences_99 rfl ?_
            refine x_acmpeq C dX10_earlyReferences_100 (tgt := 129) rfl (fun hc => ?_) (fun hc => ?_)
            · replace h := h.1 hc
              exact t_X10_earlyReferences_129 C hr hK22 hS hW (hl.keep [true, true, true, true, true, true, false, false] rfl) h
            · replace h := h.2 hc
              refine x_aload C hl dX10_earlyReferences_103 rfl ?_
              have t18 := h.1
              replace h := h.2
              refine x_get C hW (t := 7) (k := 1) t18 kl_7 (by decide) fl_X10_118 (v := .int (mI s16 w17 1)) rfl dX10_earlyReferences_105 ?_
              refine lv_iconst (v := (2 : Int32)) hx hb dX10_earlyReferences_108 (by decide) ?_
              refine lv_icmp_ne hx hb dX10_earlyReferences_109 (tgt := 129) rfl (fun hc => ?_) (fun hc => ?_)
              · replace h := h.2 hc
                exact t_X10_earlyReferences_129 C hr hK22 hS hW (hl.keep [true, true, true, true, true, true, false, false] rfl) h
              · replace h := h.1 hc
                refine x_aload C hl dX10_earlyReferences_112 rfl ?_
                refine x_get C hW (t := 7) (k := 9) t18 kl_7 (by decide) fl_X10_109 (v := .int (mI s16 w17 9)) rfl dX10_earlyReferences_114 ?_
                refine lv_if_ne hx hb dX10_earlyReferences_117 (tgt := 129) rfl (fun hc => ?_) (fun hc => ?_)
                · replace h := h.2 hc
                  exact t_X10_earlyReferences_129 C hr hK22 hS hW (hl.keep [true, true, true, true, true, true, false, false] rfl) h
                · replace h := h.1 hc
                  refine x_iload C hl dX10_earlyReferences_120 rfl ?_
                  refine lv_iconst (v := (1 : Int32)) hx hb dX10_earlyReferences_122 (by decide) ?_
                  refine x_iload C hl dX10_earlyReferences_123 rfl ?_
                  refine lv_ishl hx hb dX10_earlyReferences_125 ?_
                  refine lv_ior hx hb dX10_earlyReferences_126 ?_
                  refine x_istore C hl dX10_earlyReferences_127 (by decide) rfl (fun ls hl => ?_)
                  exact t_X10_earlyReferences_129 C hr hK22 hS hW (hl.keep [true, true, true, true, true, true, false, false] rfl) h
set_option maxRecDepth 20000 in
set_option maxHeartbeats 4000000 in
theorem t_X10_earlyReferences_22 {p : Program} {l : Launch} {e : Env} {s : State} {m : MethodId} {args : Array Value} {below : List Frame} {meth : Method} {c : Code} {H : Heap} {locs : List Loc} {D : va_G} {tc : Nat → ClassId} {b0 : Nat} {ls : Array Slot} {G : Lay} {Qx : Int32 → Mem → Prop} {l0 : Nat} {l1 : Nat} {l2 : Nat} {l3 : Nat} {l4 : Int32} {l5 : Int32}  {σ : Mem} (C : Cx p s m args meth c cX10_earlyReferences RX10 8 D tc b0) (hr : meth.sig.returnType = (some FieldType.int)) (hS : va_S (AA b0) s.heap H locs) (hW : Wd G D tc b0 σ H) (hl : hL b0 ls 8 [some (.inr (.inr l0)), some (.inr (.inr l1)), some (.inr (.inr l2)), some (.inr (.inr l3)), some (.inl l4), some (.inl l5), none, none]) (h : X_X10_earlyReferences_22 G Qx l0 l1 l2 l3 l4 l5 σ) : W p l e rm_X10_earlyReferences s m args below meth c H locs 0 0 (MQ below (va_Qi Qx (fun u t => Pw G D tc b0 u t) (AA b0)) args s 0 0 (AA b0)) (F0 m 22 ls []) := by
  obtain ⟨n, h⟩ := h
  exact t_X10_earlyReferences_22_n C hr n l4 l5 σ H locs ls hS hW hl h
set_option maxRecDepth 20000 in
set_option maxHeartbeats 4000000 in
theorem t_X10_earlyReferences_0 {p : Program} {l : Launch} {e : Env} {s : State} {m : MethodId} {args : Array Value} {below : List Frame} {meth : Method} {c : Code} {H : Heap} {locs : List Loc} {D : va_G} {tc : Nat → ClassId} {b0 : Nat} {ls : Array Slot} {G : Lay} {Qx : Int32 → Mem → Prop} {l0 : Nat} {l1 : Nat} {l2 : Nat}  {σ : Mem} (C : Cx p s m args meth c cX10_earlyReferences RX10 8 D tc b0) (hr : meth.sig.returnType = (some FieldType.int)) (hS : va_S (AA b0) s.heap H locs) (hW : Wd G D tc b0 σ H) (hl : hL b0 ls 8 [some (.inr (.inr l0)), some (.inr (.inr l1)), some (.inr (.inr l2)), none, none, none, none, none]) (h : X_X10_earlyReferences_0 G Qx l0 l1 l2  σ) : W p l e rm_X10_earlyReferences s m args below meth c H locs 0 0 (MQ below (va_Qi Qx (fun u t => Pw G D tc b0 u t) (AA b0)) args s 0 0 (AA b0)) (F0 m 0 ls []) := by
  have hx := C.1
  have hb := C.2.1
  unfold X_X10_earlyReferences_0 at h
  refine x_aload_n C hl dX10_earlyReferences_0 rfl ?_
  have t1 := h.1
  replace h := h.2
  refine x_get C hW (t := 10) (k := 0) t1 kl_10 (by decide) fl_X10_43 (v := rv b0 (mR σ l0 0)) rfl dX10_earlyReferences_1 ?_
  have t2 := h.1
  replace h := h.2
  refine x_get C hW (t := 5) (k := 0) t2 kl_5 (by decide) fl_X10_49 (v := rv b0 (mR σ (mR σ l0 0) 0)) rfl dX10_earlyReferences_4 ?_
  have t3 := h.1
  replace h := h.2
  refine x_get C hW (t := 6) (k := 1) t3 kl_6 (by decide) fl_X10_161 (v := rv b0 (mR σ (mR σ (mR σ l0 0) 0) 1)) rfl dX10_earlyReferences_7 ?_
  refine x_aload_n C hl dX10_earlyReferences_10 rfl ?_
  have t4 := h.1
  replace h := h.2
  refine x_get C hW (t := 7) (k := 4) t4 kl_7 (by decide) fl_X10_165 (v := .int (mI σ l2 4)) rfl dX10_earlyReferences_11 ?_
  have t5 := h.1
  replace h := h.2
  have v6 := h.1
  replace h := h.2
  refine x_aald C hW (t := 103) (t0 := 4) t5 (by decide) rfl v6 dX10_earlyReferences_14 ?_
  refine x_astore_n C hl dX10_earlyReferences_15 (by decide) rfl (fun ls hl => ?_)
  refine lv_iconst (v := (0 : Int32)) hx hb dX10_earlyReferences_16 (by decide) ?_
  refine x_istore C hl dX10_earlyReferences_17 (by decide) rfl (fun ls hl => ?_)
  refine lv_iconst (v := (0 : Int32)) hx hb dX10_earlyReferences_19 (by decide) ?_
  refine x_istore C hl dX10_earlyReferences_20 (by decide) rfl (fun ls hl => ?_)
  exact t_X10_earlyReferences_22 C hr hS hW (hl.keep [true, true, true, true, true, true, false, false] rfl) h
theorem T_X10_earlyReferences (l : Launch) {G : Lay} {D : va_G} {tc : Nat → ClassId} {b0 : Nat} (l0 : Nat) (l1 : Nat) (l2 : Nat) (σ : Mem) (Qx : Int32 → Mem → Prop) (h : X_X10_earlyReferences G Qx l0 l1 l2 σ) : MI l yX10_earlyReferences cX10_earlyReferences 8 ((some FieldType.int)) rm_X10_earlyReferences G D tc b0 [rv b0 l0, rv b0 l1, rv b0 l2] σ Qx :=
  x_entry (y := yX10_earlyReferences) [.inr (.inr l0), .inr (.inr l1), .inr (.inr l2)] 5 (by decide) (Nat.le_of_ble_eq_true rfl) (fun p e s m args below meth c ls C hr hW hl => t_X10_earlyReferences_0 C hr va_S.rf hW (hl.keep [true, true, true, false, false, false, false, false] rfl) h)
