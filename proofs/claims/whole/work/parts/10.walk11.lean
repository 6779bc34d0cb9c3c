/-! X12_count -/
set_option maxRecDepth 20000 in
set_option maxHeartbeats 4000000 in
theorem t_X12_count_91 {p : Program} {l : Launch} {e : Env} {s : State} {m : MethodId} {args : Array Value} {below : List Frame} {meth : Method} {c : Code} {H : Heap} {locs : List Loc} {D : va_G} {tc : Nat → ClassId} {b0 : Nat} {ls : Array Slot} {G : Lay} {Qx : Int32 → Mem → Prop}  {k0 : Int32} {k1 : Int32} {σ : Mem} (C : Cx p s m args meth c cX12_count RX12 2 D tc b0) (hr : meth.sig.returnType = (some FieldType.int)) (hS : va_S (AA b0) s.heap H locs) (hW : Wd G D tc b0 σ H) (hl : hL b0 ls 2 [none, none]) (h : X_X12_count_91 G Qx  k0 k1 σ) : W p l e rm_X12_count s m args below meth c H locs 0 0 (MQ below (va_Qi Qx (fun u t => Pw G D tc b0 u t) (AA b0)) args s 0 0 (AA b0)) (F0 m 91 ls [.int k1, .int k0]) := by
  have hx := C.1
  have hb := C.2.1
  unfold X_X12_count_91 at h
  refine lv_iadd hx hb dX12_count_91 ?_
  exact r_i C hr hW hS h dX12_count_92
set_option maxRecDepth 20000 in
set_option maxHeartbeats 4000000 in
theorem t_X12_count_76 {p : Program} {l : Launch} {e : Env} {s : State} {m : MethodId} {args : Array Value} {below : List Frame} {meth : Method} {c : Code} {H : Heap} {locs : List Loc} {D : va_G} {tc : Nat → ClassId} {b0 : Nat} {ls : Array Slot} {G : Lay} {Qx : Int32 → Mem → Prop} {l0 : Nat} {k0 : Int32} {k1 : Int32} {σ : Mem} (C : Cx p s m args meth c cX12_count RX12 2 D tc b0) (hr : meth.sig.returnType = (some FieldType.int)) (hS : va_S (AA b0) s.heap H locs) (hW : Wd G D tc b0 σ H) (hl : hL b0 ls 2 [some (.inr (.inr l0)), none]) (h : X_X12_count_76 G Qx l0 k0 k1 σ) : W p l e rm_X12_count s m args below meth c H locs 0 0 (MQ below (va_Qi Qx (fun u t => Pw G D tc b0 u t) (AA b0)) args s 0 0 (AA b0)) (F0 m 76 ls [.int k1, .int k0]) := by
  have hx := C.1
  have hb := C.2.1
  unfold X_X12_count_76 at h
  refine lv_iadd hx hb dX12_count_76 ?_
  refine x_aload_n C hl dX12_count_77 rfl ?_
  have t1 := h.1
  replace h := h.2
  refine x_get C hW (t := 12) (k := 39) t1 kl_12 (by decide) fl_X12_110 (v := rv b0 (mR σ l0 39)) rfl dX12_count_78 ?_
  refine lv_iconst (v := (3 : Int32)) hx hb dX12_count_81 (by decide) ?_
  have t2 := h.1
  replace h := h.2
  have v3 := h.1
  replace h := h.2
  refine x_zald C hW t2 v3 dX12_count_82 ?_
  refine lv_if_eq hx hb dX12_count_83 (tgt := 90) rfl (fun hc => ?_) (fun hc => ?_)
  · replace h := h.1 hc
    refine lv_iconst (v := (0 : Int32)) hx hb dX12_count_90 (by decide) ?_
    exact t_X12_count_91 C hr hS hW (hl.keep [false, false] rfl) h
  · replace h := h.2 hc
    refine lv_iconst (v := (1 : Int32)) hx hb dX12_count_86 (by decide) ?_
    refine lv_goto hx hb dX12_count_87 (tgt := 91) rfl ?_
    exact t_X12_count_91 C hr hS hW (hl.keep [false, false] rfl) h
set_option maxRecDepth 20000 in
set_option maxHeartbeats 4000000 in
theorem t_X12_count_61 {p : Program} {l : Launch} {e : Env} {s : State} {m : MethodId} {args : Array Value} {below : List Frame} {meth : Method} {c : Code} {H : Heap} {locs : List Loc} {D : va_G} {tc : Nat → ClassId} {b0 : Nat} {ls : Array Slot} {G : Lay} {Qx : Int32 → Mem → Prop} {l0 : Nat} {k0 : Int32} {k1 : Int32} {σ : Mem} (C : Cx p s m args meth c cX12_count RX12 2 D tc b0) (hr : meth.sig.returnType = (some FieldType.int)) (hS : va_S (AA b0) s.heap H locs) (hW : Wd G D tc b0 σ H) (hl : hL b0 ls 2 [some (.inr (.inr l0)), none]) (h : X_X12_count_61 G Qx l0 k0 k1 σ) : W p l e rm_X12_count s m args below meth c H locs 0 0 (MQ below (va_Qi Qx (fun u t => Pw G D tc b0 u t) (AA b0)) args s 0 0 (AA b0)) (F0 m 61 ls [.int k1, .int k0]) := by
  have hx := C.1
  have hb := C.2.1
  unfold X_X12_count_61 at h
  refine lv_iadd hx hb dX12_count_61 ?_
  refine x_aload_n C hl dX12_count_62 rfl ?_
  have t1 := h.1
  replace h := h.2
  refine x_get C hW (t := 12) (k := 39) t1 kl_12 (by decide) fl_X12_110 (v := rv b0 (mR σ l0 39)) rfl dX12_count_63 ?_
  refine lv_iconst (v := (2 : Int32)) hx hb dX12_count_66 (by decide) ?_
  have t2 := h.1
  replace h := h.2
  have v3 := h.1
  replace h := h.2
  refine x_zald C hW t2 v3 dX12_count_67 ?_
  refine lv_if_eq hx hb dX12_count_68 (tgt := 75) rfl (fun hc => ?_) (fun hc => ?_)
  · replace h := h.1 hc
    refine lv_iconst (v := (0 : Int32)) hx hb dX12_count_75 (by decide) ?_
    exact t_X12_count_76 C hr hS hW (hl.keep [true, false] rfl) h
  · replace h := h.2 hc
    refine lv_iconst (v := (1 : Int32)) hx hb dX12_count_71 (by decide) ?_
    refine lv_goto hx hb dX12_count_72 (tgt := 76) rfl ?_
    exact t_X12_count_76 C hr hS hW (hl.keep [true, false] rfl) h
set_option maxRecDepth 20000 in
set_option maxHeartbeats 4000000 in
theorem t_X12_count_47 {p : Program} {l : Launch} {e : Env} {s : State} {m : MethodId} {args : Array Value} {below : List Frame} {meth : Method} {c : Code} {H : Heap} {locs : List Loc} {D : va_G} {tc : Nat → ClassId} {b0 : Nat} {ls : Array Slot} {G : Lay} {Qx : Int32 → Mem → Prop} {l0 : Nat} {k0 : Int32} {σ : Mem} (C : Cx p s m args meth c cX12_count RX12 2 D tc b0) (hr : meth.sig.returnType = (some FieldType.int)) (hS : va_S (AA b0) s.heap H locs) (hW : Wd G D tc b0 σ H) (hl : hL b0 ls 2 [some (.inr (.inr l0)), none]) (h : X_X12_count_47 G Qx l0 k0 σ) : W p l e rm_X12_count s m args below meth c H locs 0 0 (MQ below (va_Qi Qx (fun u t => Pw G D tc b0 u t) (AA b0)) args s 0 0 (AA b0)) (F0 m 47 ls [.int k0]) := by
  have hx := C.1
  have hb := C.2.1
  unfold X_X12_count_47 at h
  refine x_aload_n C hl dX12_count_47 rfl ?_
  have t1 := h.1
  replace h := h.2
  refine x_get C hW (t := 12) (k := 39) t1 kl_12 (by decide) fl_X12_110 (v := rv b0 (mR σ l0 39)) rfl dX12_count_48 ?_
  refine lv_iconst (v := (1 : Int32)) hx hb dX12_count_51 (by decide) ?_
  have t2 := h.1
  replace h := h.2
  have v3 := h.1
  replace h := h.2
  refine x_zald C hW t2 v3 dX12_count_52 ?_
  refine lv_if_eq hx hb dX12_count_53 (tgt := 60) rfl (fun hc => ?_) (fun hc => ?_)
  · replace h := h.1 hc
    refine lv_iconst (v := (0 : Int32)) hx hb dX12_count_60 (by decide) ?_
    exact t_X12_count_61 C hr hS hW (hl.keep [true, false] rfl) h
  · replace h := h.2 hc
    refine lv_iconst (v := (1 : Int32)) hx hb dX12_count_56 (by decide) ?_
    refine lv_goto hx hb dX12_count_57 (tgt := 61) rfl ?_
    exact t_X12_count_61 C hr hS hW (hl.keep [true, false] rfl) h
set_option maxRecDepth 20000 in
set_option maxHeartbeats 4000000 in
theorem t_X12_count_0 {p : Program} {l : Launch} {e : Env} {s : State} {m : MethodId} {args : Array Value} {below : List Frame} {meth : Method} {c : Code} {H : Heap} {locs : List Loc} {D : va_G} {tc : Nat → ClassId} {b0 : Nat} {ls : Array Slot} {G : Lay} {Qx : Int32 → Mem → Prop} {l0 : Nat} {l1 : Int32}  {σ : Mem} (C : Cx p s m args meth c cX12_count RX12 2 D tc b0) (hr : meth.sig.returnType = (some FieldType.int)) (hS : va_S (AA b0) s.heap H locs) (hW : Wd G D tc b0 σ H) (hl : hL b0 ls 2 [some (.inr (.inr l0)), some (.inl l1)]) (h : X_X12_count_0 G Qx l0 l1  σ) : W p l e rm_X12_count s m args below meth c H locs 0 0 (MQ below (va_Qi Qx (fun u t => Pw G D tc b0 u t) (AA b0)) args s 0 0 (AA b0)) (F0 m 0 ls []) := by
  have hx := C.1
  have hb := C.2.1
  unfold X_X12_count_0 at h
  refine x_iload_n C hl dX12_count_0 rfl ?_
  by_cases hc0 : l1 = 0
  · replace h := h.1 hc0
    rw [hc0]
    refine lv_tableIn hx hb dX12_count_1 (by decide) (by decide) (off := 27) rfl (tgt := 28) rfl ?_
    refine x_aload_n C hl dX12_count_28 rfl ?_
    have t1 := h.1
    replace h := h.2
    refine x_get C hW (t := 12) (k := 2) t1 kl_12 (by decide) fl_X12_341 (v := .int (mI σ l0 2)) rfl dX12_count_29 ?_
    exact r_i C hr hW hS h dX12_count_32
  replace h := h.2
  by_cases hc1 : l1 = 1
  · replace h := h.1 hc1
    rw [hc1]
    refine lv_tableIn hx hb dX12_count_1 (by decide) (by decide) (off := 32) rfl (tgt := 33) rfl ?_
    refine x_aload_n C hl dX12_count_33 rfl ?_
    have t2 := h.1
    replace h := h.2
    refine x_get C hW (t := 12) (k := 39) t2 kl_12 (by decide) fl_X12_110 (v := rv b0 (mR σ l0 39)) rfl dX12_count_34 ?_
    refine lv_iconst (v := (0 : Int32)) hx hb dX12_count_37 (by decide) ?_
    have t3 := h.1
    replace h := h.2
    have v4 := h.1
    replace h := h.2
    refine x_zald C hW t3 v4 dX12_count_38 ?_
    refine lv_if_eq hx hb dX12_count_39 (tgt := 46) rfl (fun hc => ?_) (fun hc => ?_)
    · replace h := h.1 hc
      refine lv_iconst (v := (0 : Int32)) hx hb dX12_count_46 (by decide) ?_
      exact t_X12_count_47 C hr hS hW (hl.keep [true, false] rfl) h
    · replace h := h.2 hc
      refine lv_iconst (v := (1 : Int32)) hx hb dX12_count_42 (by decide) ?_
      refine lv_goto hx hb dX12_count_43 (tgt := 47) rfl ?_
      exact t_X12_count_47 C hr hS hW (hl.keep [true, false] rfl) h
  replace h := h.2
  by_cases hc2 : l1 = 2
  · replace h := h.1 hc2
    rw [hc2]
    refine lv_tableIn hx hb dX12_count_1 (by decide) (by decide) (off := 92) rfl (tgt := 93) rfl ?_
    refine x_aload_n C hl dX12_count_93 rfl ?_
    have t5 := h.1
    replace h := h.2
    refine x_get C hW (t := 12) (k := 26) t5 kl_12 (by decide) fl_X12_344 (v := .int (mI σ l0 26)) rfl dX12_count_94 ?_
    exact r_i C hr hW hS h dX12_count_97
  replace h := h.2
  replace h := h ⟨hc0, hc1, hc2⟩
  refine lv_tableOut hx hb dX12_count_1 (tb_out3 hc0 hc1 hc2) (tgt := 98) rfl ?_
  refine lv_iconst (v := (-1 : Int32)) hx hb dX12_count_98 (by decide) ?_
  exact r_i C hr hW hS h dX12_count_99
theorem T_X12_count (l : Launch) {G : Lay} {D : va_G} {tc : Nat → ClassId} {b0 : Nat} (l0 : Nat) (l1 : Int32) (σ : Mem) (Qx : Int32 → Mem → Prop) (h : X_X12_count G Qx l0 l1 σ) : MI l yX12_count cX12_count 2 ((some FieldType.int)) rm_X12_count G D tc b0 [rv b0 l0, .int l1] σ Qx :=
  x_entry (y := yX12_count) [.inr (.inr l0), .inl l1] 0 (by decide) (Nat.le_of_ble_eq_true rfl) (fun p e s m args below meth c ls C hr hW hl => t_X12_count_0 C hr va_S.rf hW (hl.keep [true, true] rfl) h)
