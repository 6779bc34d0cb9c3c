/-! X12_changed -/
set_option maxRecDepth 20000 in
set_option maxHeartbeats 4000000 in
theorem t_X12_changed_50 {p : Program} {l : Launch} {e : Env} {s : State} {m : MethodId} {args : Array Value} {below : List Frame} {meth : Method} {c : Code} {H : Heap} {locs : List Loc} {D : va_G} {tc : Nat → ClassId} {b0 : Nat} {ls : Array Slot} {G : Lay} {Qx : Int32 → Mem → Prop} {l0 : Nat} {l1 : Int32} {l3 : Int32} {k0 : Int32} {k1 : Int32} {K4 : Int32 × Int32 × Mem → Prop} {σ : Mem} (C : Cx p s m args meth c cX12_changed RX12 4 D tc b0) (hr : meth.sig.returnType = (some FieldType.int)) (hK4 : ∀ (x2 : Int32) (x3 : Int32) (σ : Mem) (H : Heap) (locs : List Loc) (ls : Array Slot), va_S (AA b0) s.heap H locs → Wd G D tc b0 σ H → hL b0 ls 4 [some (.inr (.inr l0)), some (.inl l1), some (.inl x2), some (.inl x3)] → K4 (x2, x3, σ) → W p l e rm_X12_changed s m args below meth c H locs 0 0 (MQ below (va_Qi Qx (fun u t => Pw G D tc b0 u t) (AA b0)) args s 0 0 (AA b0)) (F0 m 4 ls [])) (hS : va_S (AA b0) s.heap H locs) (hW : Wd G D tc b0 σ H) (hl : hL b0 ls 4 [some (.inr (.inr l0)), some (.inl l1), none, some (.inl l3)]) (h : X_X12_changed_50 G Qx K4 l0 l1 l3 k0 k1 σ) : W p l e rm_X12_changed s m args below meth c H locs 0 0 (MQ below (va_Qi Qx (fun u t => Pw G D tc b0 u t) (AA b0)) args s 0 0 (AA b0)) (F0 m 50 ls [.int k1, .int k0]) := by
  have hx := C.1
  have hb := C.2.1
  unfold X_X12_changed_50 at h
  refine lv_iadd hx hb dX12_changed_50 ?_
  refine x_istore_n C hl dX12_changed_51 (by decide) rfl (fun ls hl => ?_)
  refine x_iinc C hl dX12_changed_52 rfl (v := (1 : Int32)) (by decide) (by decide) rfl (fun ls hl => ?_)
  refine lv_goto hx hb dX12_changed_55 (tgt := 4) rfl ?_
  exact hK4 _ _ _ _ _ _ hS hW (hl.keep [true, true, true, true] rfl) h
set_option maxRecDepth 20000 in
set_option maxHeartbeats 4000000 in
theorem t_X12_changed_4_n {p : Program} {l : Launch} {e : Env} {s : State} {m : MethodId} {args : Array Value} {below : List Frame} {meth : Method} {c : Code} {D : va_G} {tc : Nat → ClassId} {b0 : Nat} {G : Lay} {Qx : Int32 → Mem → Prop} {l0 : Nat} {l1 : Int32} (C : Cx p s m args meth c cX12_changed RX12 4 D tc b0) (hr : meth.sig.returnType = (some FieldType.int)) (n : Nat) : ∀ (l2 : Int32) (l3 : Int32) (σ : Mem) (H : Heap) (locs : List Loc) (ls : Array Slot), va_S (AA b0) s.heap H locs → Wd G D tc b0 σ H → hL b0 ls 4 [some (.inr (.inr l0)), some (.inl l1), some (.inl l2), some (.inl l3)] → Lp (X_X12_changed_4_s G Qx l0 l1) n (l2, l3, σ) → W p l e rm_X12_changed s m args below meth c H locs 0 0 (MQ below (va_Qi Qx (fun u t => Pw G D tc b0 u t) (AA b0)) args s 0 0 (AA b0)) (F0 m 4 ls []) := by
  have hx := C.1
  have hb := C.2.1
  induction n with
  | zero => intro l2 l3 σ H locs ls hS hW hl h; exact False.elim h
  | succ n hK4 =>
    intro l2 l3 σ H locs ls hS hW hl h
    replace h : X_X12_changed_4_s G Qx l0 l1 (Lp (X_X12_changed_4_s G Qx l0 l1) n) (l2, l3, σ) := h
    unfold X_X12_changed_4_s at h
    refine x_iload_n C hl dX12_changed_4 rfl ?_
    refine x_aload_n C hl dX12_changed_5 rfl ?_
    have t1 := h.1
    replace h := h.2
    refine x_get C hW (t := 12) (k := 6) t1 kl_12 (by decide) fl_X12_23 (v := rv b0 (mR σ l0 6)) rfl dX12_changed_6 ?_
    refine x_aload_n C hl dX12_changed_9 rfl ?_
    refine x_get C hW (t := 12) (k := 45) t1 kl_12 (by decide) fl_X12_129 (v := rv b0 (mR σ l0 45)) rfl dX12_changed_10 ?_
    refine x_iload_n C hl dX12_changed_13 rfl ?_
    have t2 := h.1
    replace h := h.2
    have v3 := h.1
    replace h := h.2
    refine x_iald C hW t2 v3 dX12_changed_14 ?_
    have t4 := h.1
    replace h := h.2
    have v5 := h.1
    replace h := h.2
    refine x_iald C hW t4 v5 dX12_changed_15 ?_
    refine lv_icmp_ge hx hb dX12_changed_16 (tgt := 58) rfl (fun hc => ?_) (fun hc => ?_)
    · replace h := h.1 hc
      refine x_iload_n C hl dX12_changed_58 rfl ?_
      exact r_i C hr hW hS h dX12_changed_59
    · replace h := h.2 hc
      refine x_iload_n C hl dX12_changed_19 rfl ?_
      refine x_aload_n C hl dX12_changed_20 rfl ?_
      refine x_get C hW (t := 12) (k := 47) t1 kl_12 (by decide) fl_X12_135 (v := rv b0 (mR σ l0 47)) rfl dX12_changed_21 ?_
      refine lv_bipush (v := (16 : Int32)) hx hb dX12_changed_24 (by decide) ?_
      refine x_iload_n C hl dX12_changed_26 rfl ?_
      refine lv_imul hx hb dX12_changed_27 ?_
      refine x_iload_n C hl dX12_changed_28 rfl ?_
      refine lv_iadd hx hb dX12_changed_29 ?_
      have t6 := h.1
      replace h := h.2
      have v7 := h.1
      replace h := h.2
      refine x_iald C hW t6 v7 dX12_changed_30 ?_
      refine x_aload_n C hl dX12_changed_31 rfl ?_
      refine x_get C hW (t := 12) (k := 48) t1 kl_12 (by decide) fl_X12_138 (v := rv b0 (mR σ l0 48)) rfl dX12_changed_32 ?_
      refine lv_bipush (v := (16 : Int32)) hx hb dX12_changed_35 (by decide) ?_
      refine x_iload_n C hl dX12_changed_37 rfl ?_
      refine lv_imul hx hb dX12_changed_38 ?_
      refine x_iload_n C hl dX12_changed_39 rfl ?_
      refine lv_iadd hx hb dX12_changed_40 ?_
      have t8 := h.1
      replace h := h.2
      have v9 := h.1
      replace h := h.2
      refine x_iald C hW t8 v9 dX12_changed_41 ?_
      refine lv_icmp_eq hx hb dX12_changed_42 (tgt := 49) rfl (fun hc => ?_) (fun hc => ?_)
      · replace h := h.1 hc
        refine lv_iconst (v := (0 : Int32)) hx hb dX12_changed_49 (by decide) ?_
        exact t_X12_changed_50 C hr hK4 hS hW (hl.keep [true, true, false, true] rfl) h
      · replace h := h.2 hc
        refine lv_iconst (v := (1 : Int32)) hx hb dX12_changed_45 (by decide) ?_
        refine lv_goto hx hb dX12_changed_46 (tgt := 50) rfl ?_
        exact t_X12_changed_50 C hr hK4 hS hW (hl.keep [true, true, false, true] rfl) h
set_option maxRecDepth 20000 in
set_option maxHeartbeats 4000000 in
theorem t_X12_changed_4 {p : Program} {l : Launch} {e : Env} {s : State} {m : MethodId} {args : Array Value} {below : List Frame} {meth : Method} {c : Code} {H : Heap} {locs : List Loc} {D : va_G} {tc : Nat → ClassId} {b0 : Nat} {ls : Array Slot} {G : Lay} {Qx : Int32 → Mem → Prop} {l0 : Nat} {l1 : Int32} {l2 : Int32} {l3 : Int32}  {σ : Mem} (C : Cx p s m args meth c cX12_changed RX12 4 D tc b0) (hr : meth.sig.returnType = (some FieldType.int)) (hS : va_S (AA b0) s.heap H locs) (hW : Wd G D tc b0 σ H) (hl : hL b0 ls 4 [some (.inr (.inr l0)), some (.inl l1), some (.inl l2), some (.inl l3)]) (h : X_X12_changed_4 G Qx l0 l1 l2 l3 σ) : W p l e rm_X12_changed s m args below meth c H locs 0 0 (MQ below (va_Qi Qx (fun u t => Pw G D tc b0 u t) (AA b0)) args s 0 0 (AA b0)) (F0 m 4 ls []) := by
  obtain ⟨n, h⟩ := h
  exact t_X12_changed_4_n C hr n l2 l3 σ H locs ls hS hW hl h
set_option maxRecDepth 20000 in
set_option maxHeartbeats 4000000 in
theorem t_X12_changed_0 {p : Program} {l : Launch} {e : Env} {s : State} {m : MethodId} {args : Array Value} {below : List Frame} {meth : Method} {c : Code} {H : Heap} {locs : List Loc} {D : va_G} {tc : Nat → ClassId} {b0 : Nat} {ls : Array Slot} {G : Lay} {Qx : Int32 → Mem → Prop} {l0 : Nat} {l1 : Int32}  {σ : Mem} (C : Cx p s m args meth c cX12_changed RX12 4 D tc b0) (hr : meth.sig.returnType = (some FieldType.int)) (hS : va_S (AA b0) s.heap H locs) (hW : Wd G D tc b0 σ H) (hl : hL b0 ls 4 [some (.inr (.inr l0)), some (.inl l1), none, none]) (h : X_X12_changed_0 G Qx l0 l1  σ) : W p l e rm_X12_changed s m args below meth c H locs 0 0 (MQ below (va_Qi Qx (fun u t => Pw G D tc b0 u t) (AA b0)) args s 0 0 (AA b0)) (F0 m 0 ls []) := by
  have hx := C.1
  have hb := C.2.1
  unfold X_X12_changed_0 at h
  refine lv_iconst (v := (0 : Int32)) hx hb dX12_changed_0 (by decide) ?_
  refine x_istore_n C hl dX12_changed_1 (by decide) rfl (fun ls hl => ?_)
  refine lv_iconst (v := (0 : Int32)) hx hb dX12_changed_2 (by decide) ?_
  refine x_istore_n C hl dX12_changed_3 (by decide) rfl (fun ls hl => ?_)
  exact t_X12_changed_4 C hr hS hW (hl.keep [true, true, true, true] rfl) h
theorem T_X12_changed (l : Launch) {G : Lay} {D : va_G} {tc : Nat → ClassId} {b0 : Nat} (l0 : Nat) (l1 : Int32) (σ : Mem) (Qx : Int32 → Mem → Prop) (h : X_X12_changed G Qx l0 l1 σ) : MI l yX12_changed cX12_changed 4 ((some FieldType.int)) rm_X12_changed G D tc b0 [rv b0 l0, .int l1] σ Qx :=
  x_entry (y := yX12_changed) [.inr (.inr l0), .inl l1] 2 (by decide) (Nat.le_of_ble_eq_true rfl) (fun p e s m args below meth c ls C hr hW hl => t_X12_changed_0 C hr va_S.rf hW (hl.keep [true, true, false, false] rfl) h)
/-! X12_hooks -/
set_option maxRecDepth 20000 in
set_option maxHeartbeats 4000000 in
theorem t_X12_hooks_94 {p : Program} {l : Launch} {e : Env} {s : State} {m : MethodId} {args : Array Value} {below : List Frame} {meth : Method} {c : Code} {H : Heap} {locs : List Loc} {D : va_G} {tc : Nat → ClassId} {b0 : Nat} {ls : Array Slot} {G : Lay} {Qx : Mem → Prop} {l0 : Nat} {l1 : Int32} {l2 : Int32} {l3 : Int32} {l4 : Int32} {l5 : Int32}  {K10 : Int32 × Mem → Prop} {K39 : Int32 × Mem → Prop} {σ : Mem} (C : Cx p s m args meth c cX12_hooks RX12 6 D tc b0) (hr : meth.sig.returnType = (none : Option FieldType)) (hK10 : ∀ (x4 : Int32) (σ : Mem) (H : Heap) (locs : List Loc) (ls : Array Slot), va_S (AA b0) s.heap H locs → Wd G D tc b0 σ H → hL b0 ls 6 [some (.inr (.inr l0)), some (.inl l1), some (.inl l2), some (.inl l3), some (.inl x4), none] → K10 (x4, σ) → W p l e rm_X12_hooks s m args below meth c H locs 0 0 (MQ below (va_Qv Qx (fun u t => Pw G D tc b0 u t) (AA b0)) args s 0 0 (AA b0)) (F0 m 10 ls [])) (hK39 : ∀ (x5 : Int32) (σ : Mem) (H : Heap) (locs : List Loc) (ls : Array Slot), va_S (AA b0) s.heap H locs → Wd G D tc b0 σ H → hL b0 ls 6 [some (.inr (.inr l0)), some (.inl l1), some (.inl l2), some (.inl l3), some (.inl l4), some (.inl x5)] → K39 (x5, σ) → W p l e rm_X12_hooks s m args below meth c H locs 0 0 (MQ below (va_Qv Qx (fun u t => Pw G D tc b0 u t) (AA b0)) args s 0 0 (AA b0)) (F0 m 39 ls [])) (hS : va_S (AA b0) s.heap H locs) (hW : Wd G D tc b0 σ H) (hl : hL b0 ls 6 [some (.inr (.inr l0)), some (.inl l1), some (.inl l2), some (.inl l3), some (.inl l4), some (.inl l5)]) (h : X_X12_hooks_94 G Qx K10 K39 l0 l1 l2 l3 l4 l5  σ) : W p l e rm_X12_hooks s m args below meth c H locs 0 0 (MQ below (va_Qv Qx (fun u t => Pw G D tc b0 u t) (AA b0)) args s 0 0 (AA b0)) (F0 m 94 ls []) := by
  have hx := C.1
  have hb := C.2.1
  unfold X_X12_hooks_94 at h
  refine x_iinc C hl dX12_hooks_94 rfl (v := (1 : Int32)) (by decide) (by decide) rfl (fun ls hl => ?_)
  refine lv_goto hx hb dX12_hooks_97 (tgt := 39) rfl ?_
  exact hK39 _ _ _ _ _ hS hW (hl.keep [true, true, true, true, true, true] rfl) h
set_option maxRecDepth 20000 in
set_option maxHeartbeats 4000000 in
theorem t_X12_hooks_100 {p : Program} {l : Launch} {e : Env} {s : State} {m : MethodId} {args : Array Value} {below : List Frame} {meth : Method} {c : Code} {H : Heap} {locs : List Loc} {D : va_G} {tc : Nat → ClassId} {b0 : Nat} {ls : Array Slot} {G : Lay} {Qx : Mem → Prop} {l0 : Nat} {l1 : Int32} {l2 : Int32} {l3 : Int32} {l4 : Int32}  {K10 : Int32 × Mem → Prop} {σ : Mem} (C : Cx p s m args meth c cX12_hooks RX12 6 D tc b0) (hr : meth.sig.returnType = (none : Option FieldType)) (hK10 : ∀ (x4 : Int32) (σ : Mem) (H : Heap) (locs : List Loc) (ls : Array Slot), va_S (AA b0) s.heap H locs → Wd G D tc b0 σ H → hL b0 ls 6 [some (.inr (.inr l0)), some (.inl l1), some (.inl l2), some (.inl l3), some (.inl x4), none] → K10 (x4, σ) → W p l e rm_X12_hooks s m args below meth c H locs 0 0 (MQ below (va_Qv Qx (fun u t => Pw G D tc b0 u t) (AA b0)) args s 0 0 (AA b0)) (F0 m 10 ls [])) (hS : va_S (AA b0) s.heap H locs) (hW : Wd G D tc b0 σ H) (hl : hL b0 ls 6 [some (.inr (.inr l0)), some (.inl l1), some (.inl l2), some (.inl l3), some (.inl l4), none]) (h : X_X12_hooks_100 G Qx K10 l0 l1 l2 l3 l4  σ) : W p l e rm_X12_hooks s m args below meth c H locs 0 0 (MQ below (va_Qv Qx (fun u t => Pw G D tc b0 u t) (AA b0)) args s 0 0 (AA b0)) (F0 m 100 ls []) := by
  have hx := C.1
  have hb := C.2.1
  unfold X_X12_hooks_100 at h
  refine x_iinc C hl dX12_hooks_100 rfl (v := (1 : Int32)) (by decide) (by decide) rfl (fun ls hl => ?_)
  refine lv_goto hx hb dX12_hooks_103 (tgt := 10) rfl ?_
  exact hK10 _ _ _ _ _ hS hW (hl.keep [true, true, true, true, true, false] rfl) h
set_option maxRecDepth 20000 in
set_option maxHeartbeats 4000000 in
theorem t_X12_hooks_39_n {p : Program} {l : Launch} {e : Env} {s : State} {m : MethodId} {args : Array Value} {below : List Frame} {meth : Method} {c : Code} {D : va_G} {tc : Nat → ClassId} {b0 : Nat} {G : Lay} {Qx : Mem → Prop} {l0 : Nat} {l1 : Int32} {l2 : Int32} {l3 : Int32} {l4 : Int32} {K10 : Int32 × Mem → Prop} (C : Cx p s m args meth c cX12_hooks RX12 6 D tc b0) (hr : meth.sig.returnType = (none : Option FieldType)) (hK10 : ∀ (x4 : Int32) (σ : Mem) (H : Heap) (locs : List Loc) (ls : Array Slot), va_S (AA b0) s.heap H locs → Wd G D tc b0 σ H → hL b0 ls 6 [some (.inr (.inr l0)), some (.inl l1), some (.inl l2), some (.inl l3), some (.inl x4), none] → K10 (x4, σ) → W p l e rm_X12_hooks s m args below meth c H locs 0 0 (MQ below (va_Qv Qx (fun u t => Pw G D tc b0 u t) (AA b0)) args s 0 0 (AA b0)) (F0 m 10 ls [])) (n : Nat) : ∀ (l5 : Int32) (σ : Mem) (H : Heap) (locs : List Loc) (ls : Array Slot), va_S (AA b0) s.heap H locs → Wd G D tc b0 σ H → hL b0 ls 6 [some (.inr (.inr l0)), some (.inl l1), some (.inl l2), some (.inl l3), some (.inl l4), some (.inl l5)] → Lp (X_X12_hooks_39_s G Qx K10 l0 l1 l2 l3 l4) n (l5, σ) → W p l e rm_X12_hooks s m args below meth c H locs 0 0 (MQ below (va_Qv Qx (fun u t => Pw G D tc b0 u t) (AA b0)) args s 0 0 (AA b0)) (F0 m 39 ls []) := by
  have hx := C.1
  have hb := C.2.1
  induction n with
  | zero => intro l5 σ H locs ls hS hW hl h; exact False.elim h
  | succ n hK39 =>
    intro l5 σ H locs ls hS hW hl h
    replace h : X_X12_hooks_39_s G Qx K10 l0 l1 l2 l3 l4 (Lp (X_X12_hooks_39_s G Qx K10 l0 l1 l2 l3 l4) n) (l5, σ) := h
    unfold X_X12_hooks_39_s at h
    refine x_iload C hl dX12_hooks_39 rfl ?_
    refine lv_iconst (v := (4 : Int32)) hx hb dX12_hooks_41 (by decide) ?_
    refine x_iload C hl dX12_hooks_42 rfl ?_
    refine lv_imul hx hb dX12_hooks_44 ?_
    refine x_aload_n C hl dX12_hooks_45 rfl ?_
    have t1 := h.1
    replace h := h.2
    refine x_get C hW (t := 12) (k := 7) t1 kl_12 (by decide) fl_X12_26 (v := rv b0 (mR σ l0 7)) rfl dX12_hooks_46 ?_
    refine x_iload C hl dX12_hooks_49 rfl ?_
    have t2 := h.1
    replace h := h.2
    have v3 := h.1
    replace h := h.2
    refine x_iald C hW t2 v3 dX12_hooks_51 ?_
    refine lv_iadd hx hb dX12_hooks_52 ?_
    refine lv_icmp_ge hx hb dX12_hooks_53 (tgt := 100) rfl (fun hc => ?_) (fun hc => ?_)
    · replace h := h.1 hc
      exact t_X12_hooks_100 C hr hK10 hS hW (hl.keep [true, true, true, true, true, false] rfl) h
    · replace h := h.2 hc
      refine x_aload_n C hl dX12_hooks_56 rfl ?_
      refine x_get C hW (t := 12) (k := 20) t1 kl_12 (by decide) fl_X12_65 (v := rv b0 (mR σ l0 20)) rfl dX12_hooks_57 ?_
      refine x_iload C hl dX12_hooks_60 rfl ?_
      have t4 := h.1
      replace h := h.2
      have v5 := h.1
      replace h := h.2
      refine x_iald C hW t4 v5 dX12_hooks_62 ?_
      refine x_iload_n C hl dX12_hooks_63 rfl ?_
      refine lv_icmp_ne hx hb dX12_hooks_64 (tgt := 94) rfl (fun hc => ?_) (fun hc => ?_)
      · replace h := h.2 hc
        exact t_X12_hooks_94 C hr hK10 hK39 hS hW (hl.keep [true, true, true, true, true, true] rfl) h
      · replace h := h.1 hc
        refine x_aload_n C hl dX12_hooks_67 rfl ?_
        refine x_get C hW (t := 12) (k := 47) t1 kl_12 (by decide) fl_X12_135 (v := rv b0 (mR σ l0 47)) rfl dX12_hooks_68 ?_
        refine lv_bipush (v := (16 : Int32)) hx hb dX12_hooks_71 (by decide) ?_
        refine x_iload_n C hl dX12_hooks_73 rfl ?_
        refine lv_imul hx hb dX12_hooks_74 ?_
        refine x_aload_n C hl dX12_hooks_75 rfl ?_
        refine x_get C hW (t := 12) (k := 21) t1 kl_12 (by decide) fl_X12_68 (v := rv b0 (mR σ l0 21)) rfl dX12_hooks_76 ?_
        refine x_iload C hl dX12_hooks_79 rfl ?_
        have t6 := h.1
        replace h := h.2
        have v7 := h.1
        replace h := h.2
        refine x_iald C hW t6 v7 dX12_hooks_81 ?_
        refine lv_iadd hx hb dX12_hooks_82 ?_
        refine lv_dup2_11 hx hb dX12_hooks_83 rfl (rv_cat _ _) ?_
        have t8 := h.1
        replace h := h.2
        have v9 := h.1
        replace h := h.2
        refine x_iald C hW t8 v9 dX12_hooks_84 ?_
        refine x_aload_n C hl dX12_hooks_85 rfl ?_
        refine x_get C hW (t := 12) (k := 22) t1 kl_12 (by decide) fl_X12_71 (v := rv b0 (mR σ l0 22)) rfl dX12_hooks_86 ?_
        refine x_iload C hl dX12_hooks_89 rfl ?_
        have t10 := h.1
        replace h := h.2
        have v11 := h.1
        replace h := h.2
        refine x_iald C hW t10 v11 dX12_hooks_91 ?_
        refine lv_iadd hx hb dX12_hooks_92 ?_
        refine x_iast C hW hS t8 v9 dX12_hooks_93 (fun H locs hW hS => ?_)
        obtain ⟨s12, e_s12⟩ : ∃ z : Mem, z = (sI σ (mR σ l0 47) (((16 : Int32) * l1) + (mI σ (mR σ l0 21) l5.toNatClampNeg)).toNatClampNeg ((mI σ (mR σ l0 47) (((16 : Int32) * l1) + (mI σ (mR σ l0 21) l5.toNatClampNeg)).toNatClampNeg) + (mI σ (mR σ l0 22) l5.toNatClampNeg))) := ⟨_, rfl⟩
        replace h := h s12 e_s12
        replace hW : Wd G D tc b0 s12 H := by rw [e_s12]; exact hW
        exact t_X12_hooks_94 C hr hK10 hK39 hS hW (hl.keep [true, true, true, true, true, true] rfl) h
set_option maxRecDepth 20000 in
set_option maxHeartbeats 4000000 in
theorem t_X12_hooks_39 {p : Program} {l : Launch} {e : Env} {s : State} {m : MethodId} {args : Array Value} {below : List Frame} {meth : Method} {c : Code} {H : Heap} {locs : List Loc} {D : va_G} {tc : Nat → ClassId} {b0 : Nat} {ls : Array Slot} {G : Lay} {Qx : Mem → Prop} {l0 : Nat} {l1 : Int32} {l2 : Int32} {l3 : Int32} {l4 : Int32} {l5 : Int32}  {K10 : Int32 × Mem → Prop} {σ : Mem} (C : Cx p s m args meth c cX12_hooks RX12 6 D tc b0) (hr : meth.sig.returnType = (none : Option FieldType)) (hK10 : ∀ (x4 : Int32) (σ : Mem) (H : Heap) (locs : List Loc) (ls : Array Slot), va_S (AA b0) s.heap H locs → Wd G D tc b0 σ H → hL b0 ls 6 [some (.inr (.inr l0)), some (.inl l1), some (.inl l2), some (.inl l3), some (.inl x4), none] → K10 (x4, σ) → W p l e rm_X12_hooks s m args below meth c H locs 0 0 (MQ below (va_Qv Qx (fun u t => Pw G D tc b0 u t) (AA b0)) args s 0 0 (AA b0)) (F0 m 10 ls [])) (hS : va_S (AA b0) s.heap H locs) (hW : Wd G D tc b0 σ H) (hl : hL b0 ls 6 [some (.inr (.inr l0)), some (.inl l1), some (.inl l2), some (.inl l3), some (.inl l4), some (.inl l5)]) (h : X_X12_hooks_39 G Qx K10 l0 l1 l2 l3 l4 l5 σ) : W p l e rm_X12_hooks s m args below meth c H locs 0 0 (MQ below (va_Qv Qx (fun u t => Pw G D tc b0 u t) (AA b0)) args s 0 0 (AA b0)) (F0 m 39 ls []) := by
  obtain ⟨n, h⟩ := h
  exact t_X12_hooks_39_n C hr hK10 n l5 σ H locs ls hS hW hl h
set_option maxRecDepth 20000 in
set_option maxHeartbeats 4000000 in
theorem t_X12_hooks_10_n {p : Program} {l : Launch} {e : Env} {s : State} {m : MethodId} {args : Array Value} {below : List Frame} {meth : Method} {c : Code} {D : va_G} {tc : Nat → ClassId} {b0 : Nat} {G : Lay} {Qx : Mem → Prop} {l0 : Nat} {l1 : Int32} {l2 : Int32} {l3 : Int32} (C : Cx p s m args meth c cX12_hooks RX12 6 D tc b0) (hr : meth.sig.returnType = (none : Option FieldType)) (n : Nat) : ∀ (l4 : Int32) (σ : Mem) (H : Heap) (locs : List Loc) (ls : Array Slot), va_S (AA b0) s.heap H locs → Wd G D tc b0 σ H → hL b0 ls 6 [some (.inr (.inr l0)), some (.inl l1), some (.inl l2), some (.inl l3), some (.inl l4), none] → Lp (X_X12_hooks_10_s G Qx l0 l1 l2 l3) n (l4, σ) → W p l e rm_X12_hooks s m args below meth c H locs 0 0 (MQ below (va_Qv Qx (fun u t => Pw G D tc b0 u t) (AA b0)) args s 0 0 (AA b0)) (F0 m 10 ls []) := by
  have hx := C.1
  have hb := C.2.1
  induction n with
  | zero => intro l4 σ H locs ls hS hW hl h; exact False.elim h
  | succ n hK10 =>
    intro l4 σ H locs ls hS hW hl h
    replace h : X_X12_hooks_10_s G Qx l0 l1 l2 l3 (Lp (X_X12_hooks_10_s G Qx l0 l1 l2 l3) n) (l4, σ) := h
    unfold X_X12_hooks_10_s at h
    refine x_iload C hl dX12_hooks_10 rfl ?_
    refine x_aload_n C hl dX12_hooks_12 rfl ?_
    have t1 := h.1
    replace h := h.2
    refine x_get C hW (t := 12) (k := 2) t1 kl_12 (by decide) fl_X12_341 (v := .int (mI σ l0 2)) rfl dX12_hooks_13 ?_
    refine lv_icmp_ge hx hb dX12_hooks_16 (tgt := 106) rfl (fun hc => ?_) (fun hc => ?_)
    · replace h := h.1 hc
      exact r_v C hr hW hS h dX12_hooks_106
    · replace h := h.2 hc
      refine x_aload_n C hl dX12_hooks_19 rfl ?_
      refine lv_iconst (v := (0 : Int32)) hx hb dX12_hooks_20 (by decide) ?_
      refine x_iload_n C hl dX12_hooks_21 rfl ?_
      refine x_iload C hl dX12_hooks_22 rfl ?_
      refine y_i (x_run (As := [.int (0 : Int32), .int l3, .int l4]) C hW hS (T_X12_isA l l0 (0 : Int32) l3 l4 σ _ h) t1 kl_12 (CW.of yv_X12_isA ml_X12_315) ⟨rfl, rfl, ⟨by decide, by decide⟩, by decide, by decide⟩ rfl hl.1 rfl (by decide) dX12_hooks_24) hS (fun w3 s2 H locs h hW hS => ?_)
      refine lv_if_ne hx hb dX12_hooks_27 (tgt := 33) rfl (fun hc => ?_) (fun hc => ?_)
      · replace h := h.2 hc
        refine lv_iconst (v := (4 : Int32)) hx hb dX12_hooks_33 (by decide) ?_
        refine x_iload C hl dX12_hooks_34 rfl ?_
        refine lv_imul hx hb dX12_hooks_36 ?_
        refine x_istore C hl dX12_hooks_37 (by decide) rfl (fun ls hl => ?_)
        exact t_X12_hooks_39 C hr hK10 hS hW (hl.keep [true, true, true, true, true, true] rfl) h
      · replace h := h.1 hc
        refine lv_goto hx hb dX12_hooks_30 (tgt := 100) rfl ?_
        exact t_X12_hooks_100 C hr hK10 hS hW (hl.keep [true, true, true, true, true, false] rfl) h
set_option maxRecDepth 20000 in
set_option maxHeartbeats 4000000 in
theorem t_X12_hooks_10 {p : Program} {l : Launch} {e : Env} {s : State} {m : MethodId} {args : Array Value} {below : List Frame} {meth : Method} {c : Code} {H : Heap} {locs : List Loc} {D : va_G} {tc : Nat → ClassId} {b0 : Nat} {ls : Array Slot} {G : Lay} {Qx : Mem → Prop} {l0 : Nat} {l1 : Int32} {l2 : Int32} {l3 : Int32} {l4 : Int32}  {σ : Mem} (C : Cx p s m args meth c cX12_hooks RX12 6 D tc b0) (hr : meth.sig.returnType = (none : Option FieldType)) (hS : va_S (AA b0) s.heap H locs) (hW : Wd G D tc b0 σ H) (hl : hL b0 ls 6 [some (.inr (.inr l0)), some (.inl l1), some (.inl l2), some (.inl l3), some (.inl l4), none]) (h : X_X12_hooks_10 G Qx l0 l1 l2 l3 l4 σ) : W p l e rm_X12_hooks s m args below meth c H locs 0 0 (MQ below (va_Qv Qx (fun u t => Pw G D tc b0 u t) (AA b0)) args s 0 0 (AA b0)) (F0 m 10 ls []) := by
  obtain ⟨n, h⟩ := h
  exact t_X12_hooks_10_n C hr n l4 σ H locs ls hS hW hl h
set_option maxRecDepth 20000 in
set_option maxHeartbeats 4000000 in
theorem t_X12_hooks_0 {p : Program} {l : Launch} {e : Env} {s : State} {m : MethodId} {args : Array Value} {below : List Frame} {meth : Method} {c : Code} {H : Heap} {locs : List Loc} {D : va_G} {tc : Nat → ClassId} {b0 : Nat} {ls : Array Slot} {G : Lay} {Qx : Mem → Prop} {l0 : Nat} {l1 : Int32} {l2 : Int32}  {σ : Mem} (C : Cx p s m args meth c cX12_hooks RX12 6 D tc b0) (hr : meth.sig.returnType = (none : Option FieldType)) (hS : va_S (AA b0) s.heap H locs) (hW : Wd G D tc b0 σ H) (hl : hL b0 ls 6 [some (.inr (.inr l0)), some (.inl l1), some (.inl l2), none, none, none]) (h : X_X12_hooks_0 G Qx l0 l1 l2  σ) : W p l e rm_X12_hooks s m args below meth c H locs 0 0 (MQ below (va_Qv Qx (fun u t => Pw G D tc b0 u t) (AA b0)) args s 0 0 (AA b0)) (F0 m 0 ls []) := by
  have hx := C.1
  have hb := C.2.1
  unfold X_X12_hooks_0 at h
  refine x_aload_n C hl dX12_hooks_0 rfl ?_
  have t1 := h.1
  replace h := h.2
  refine x_get C hW (t := 12) (k := 45) t1 kl_12 (by decide) fl_X12_129 (v := rv b0 (mR σ l0 45)) rfl dX12_hooks_1 ?_
  refine x_iload_n C hl dX12_hooks_4 rfl ?_
  have t2 := h.1
  replace h := h.2
  have v3 := h.1
  replace h := h.2
  refine x_iald C hW t2 v3 dX12_hooks_5 ?_
  refine x_istore_n C hl dX12_hooks_6 (by decide) rfl (fun ls hl => ?_)
  refine lv_iconst (v := (0 : Int32)) hx hb dX12_hooks_7 (by decide) ?_
  refine x_istore C hl dX12_hooks_8 (by decide) rfl (fun ls hl => ?_)
  exact t_X12_hooks_10 C hr hS hW (hl.keep [true, true, true, true, true, false] rfl) h
theorem T_X12_hooks (l : Launch) {G : Lay} {D : va_G} {tc : Nat → ClassId} {b0 : Nat} (l0 : Nat) (l1 : Int32) (l2 : Int32) (σ : Mem) (Qx : Mem → Prop) (h : X_X12_hooks G Qx l0 l1 l2 σ) : MV l yX12_hooks cX12_hooks 6 ((none : Option FieldType)) rm_X12_hooks G D tc b0 [rv b0 l0, .int l1, .int l2] σ Qx :=
  x_entry (y := yX12_hooks) [.inr (.inr l0), .inl l1, .inl l2] 3 (by decide) (Nat.le_of_ble_eq_true rfl) (fun p e s m args below meth c ls C hr hW hl => t_X12_hooks_0 C hr va_S.rf hW (hl.keep [true, true, true, false, false, false] rfl) h)
/-! X12_waitsFor -/
set_option maxRecDepth 20000 in
set_option maxHeartbeats 4000000 in
theorem t_X12_waitsFor_40 {p : Program} {l : Launch} {e : Env} {s : State} {m : MethodId} {args : Array Value} {below : List Frame} {meth : Method} {c : Code} {H : Heap} {locs : List Loc} {D : va_G} {tc : Nat → ClassId} {b0 : Nat} {ls : Array Slot} {G : Lay} {Qx : Int32 → Mem → Prop}   {σ : Mem} (C : Cx p s m args meth c cX12_waitsFor RX12 6 D tc b0) (hr : meth.sig.returnType = (some FieldType.int)) (hS : va_S (AA b0) s.heap H locs) (hW : Wd G D tc b0 σ H) (hl : hL b0 ls 6 [none, none, none, none, none, none]) (h : X_X12_waitsFor_40 G Qx   σ) : W p l e rm_X12_waitsFor s m args below meth c H locs 0 0 (MQ below (va_Qi Qx (fun u t => Pw G D tc b0 u t) (AA b0)) args s 0 0 (AA b0)) (F0 m 40 ls []) := by
  have hx := C.1
  have hb := C.2.1
  unfold X_X12_waitsFor_40 at h
  refine lv_iconst (v := (-1 : Int32)) hx hb dX12_waitsFor_40 (by decide) ?_
  exact r_i C hr hW hS h dX12_waitsFor_41
set_option maxRecDepth 20000 in
set_option maxHeartbeats 4000000 in
theorem t_X12_waitsFor_102 {p : Program} {l : Launch} {e : Env} {s : State} {m : MethodId} {args : Array Value} {below : List Frame} {meth : Method} {c : Code} {H : Heap} {locs : List Loc} {D : va_G} {tc : Nat → ClassId} {b0 : Nat} {ls : Array Slot} {G : Lay} {Qx : Int32 → Mem → Prop}  {k0 : Int32} {σ : Mem} (C : Cx p s m args meth c cX12_waitsFor RX12 6 D tc b0) (hr : meth.sig.returnType = (some FieldType.int)) (hS : va_S (AA b0) s.heap H locs) (hW : Wd G D tc b0 σ H) (hl : hL b0 ls 6 [none, none, none, none, none, none]) (h : X_X12_waitsFor_102 G Qx  k0 σ) : W p l e rm_X12_waitsFor s m args below meth c H locs 0 0 (MQ below (va_Qi Qx (fun u t => Pw G D tc b0 u t) (AA b0)) args s 0 0 (AA b0)) (F0 m 102 ls [.int k0]) := by
  have hx := C.1
  have hb := C.2.1
  unfold X_X12_waitsFor_102 at h
  exact r_i C hr hW hS h dX12_waitsFor_102
set_option maxRecDepth 20000 in
set_option maxHeartbeats 4000000 in
theorem t_X12_waitsFor_101 {p : Program} {l : Launch} {e : Env} {s : State} {m : MethodId} {args : Array Value} {below : List Frame} {meth : Method} {c : Code} {H : Heap} {locs : List Loc} {D : va_G} {tc : Nat → ClassId} {b0 : Nat} {ls : Array Slot} {G : Lay} {Qx : Int32 → Mem → Prop}   {σ : Mem} (C : Cx p s m args meth c cX12_waitsFor RX12 6 D tc b0) (hr : meth.sig.returnType = (some FieldType.int)) (hS : va_S (AA b0) s.heap H locs) (hW : Wd G D tc b0 σ H) (hl : hL b0 ls 6 [none, none, none, none, none, none]) (h : X_X12_waitsFor_101 G Qx   σ) : W p l e rm_X12_waitsFor s m args below meth c H locs 0 0 (MQ below (va_Qi Qx (fun u t => Pw G D tc b0 u t) (AA b0)) args s 0 0 (AA b0)) (F0 m 101 ls []) := by
  have hx := C.1
  have hb := C.2.1
  unfold X_X12_waitsFor_101 at h
  refine lv_iconst (v := (-1 : Int32)) hx hb dX12_waitsFor_101 (by decide) ?_
  exact t_X12_waitsFor_102 C hr hS hW (hl.keep [false, false, false, false, false, false] rfl) h
set_option maxRecDepth 20000 in
set_option maxHeartbeats 4000000 in
theorem t_X12_waitsFor_0 {p : Program} {l : Launch} {e : Env} {s : State} {m : MethodId} {args : Array Value} {below : List Frame} {meth : Method} {c : Code} {H : Heap} {locs : List Loc} {D : va_G} {tc : Nat → ClassId} {b0 : Nat} {ls : Array Slot} {G : Lay} {Qx : Int32 → Mem → Prop} {l0 : Nat} {l1 : Int32} {l2 : Int32}  {σ : Mem} (C : Cx p s m args meth c cX12_waitsFor RX12 6 D tc b0) (hr : meth.sig.returnType = (some FieldType.int)) (hS : va_S (AA b0) s.heap H locs) (hW : Wd G D tc b0 σ H) (hl : hL b0 ls 6 [some (.inr (.inr l0)), some (.inl l1), some (.inl l2), none, none, none]) (h : X_X12_waitsFor_0 G Qx l0 l1 l2  σ) : W p l e rm_X12_waitsFor s m args below meth c H locs 0 0 (MQ below (va_Qi Qx (fun u t => Pw G D tc b0 u t) (AA b0)) args s 0 0 (AA b0)) (F0 m 0 ls []) := by
  have hx := C.1
  have hb := C.2.1
  unfold X_X12_waitsFor_0 at h
  refine lv_bipush (v := (16 : Int32)) hx hb dX12_waitsFor_0 (by decide) ?_
  refine x_aload_n C hl dX12_waitsFor_2 rfl ?_
  have t1 := h.1
  replace h := h.2
  refine x_get C hW (t := 12) (k := 45) t1 kl_12 (by decide) fl_X12_129 (v := rv b0 (mR σ l0 45)) rfl dX12_waitsFor_3 ?_
  refine x_iload_n C hl dX12_waitsFor_6 rfl ?_
  have t2 := h.1
  replace h := h.2
  have v3 := h.1
  replace h := h.2
  refine x_iald C hW t2 v3 dX12_waitsFor_7 ?_
  refine lv_imul hx hb dX12_waitsFor_8 ?_
  refine x_iload_n C hl dX12_waitsFor_9 rfl ?_
  refine lv_iadd hx hb dX12_waitsFor_10 ?_
  refine x_istore_n C hl dX12_waitsFor_11 (by decide) rfl (fun ls hl => ?_)
  refine x_aload_n C hl dX12_waitsFor_12 rfl ?_
  refine x_get C hW (t := 12) (k := 47) t1 kl_12 (by decide) fl_X12_135 (v := rv b0 (mR σ l0 47)) rfl dX12_waitsFor_13 ?_
  refine lv_bipush (v := (16 : Int32)) hx hb dX12_waitsFor_16 (by decide) ?_
  refine x_iload_n C hl dX12_waitsFor_18 rfl ?_
  refine lv_imul hx hb dX12_waitsFor_19 ?_
  refine x_iload_n C hl dX12_waitsFor_20 rfl ?_
  refine lv_iadd hx hb dX12_waitsFor_21 ?_
  have t4 := h.1
  replace h := h.2
  have v5 := h.1
  replace h := h.2
  refine x_iald C hW t4 v5 dX12_waitsFor_22 ?_
  refine x_istore C hl dX12_waitsFor_23 (by decide) rfl (fun ls hl => ?_)
  refine x_aload_n C hl dX12_waitsFor_25 rfl ?_
  refine x_get C hW (t := 12) (k := 9) t1 kl_12 (by decide) fl_X12_32 (v := rv b0 (mR σ l0 9)) rfl dX12_waitsFor_26 ?_
  refine x_iload_n C hl dX12_waitsFor_29 rfl ?_
  have t6 := h.1
  replace h := h.2
  have v7 := h.1
  replace h := h.2
  refine x_iald C hW t6 v7 dX12_waitsFor_30 ?_
  refine lv_iconst (v := (4 : Int32)) hx hb dX12_waitsFor_31 (by decide) ?_
  refine lv_icmp_ne hx hb dX12_waitsFor_32 (tgt := 40) rfl (fun hc => ?_) (fun hc => ?_)
  · replace h := h.2 hc
    exact t_X12_waitsFor_40 C hr hS hW (hl.keep [false, false, false, false, false, false] rfl) h
  · replace h := h.1 hc
    refine x_iload C hl dX12_waitsFor_35 rfl ?_
    refine lv_if_ne hx hb dX12_waitsFor_37 (tgt := 42) rfl (fun hc => ?_) (fun hc => ?_)
    · replace h := h.2 hc
      refine x_aload_n C hl dX12_waitsFor_42 rfl ?_
      refine x_iload_n C hl dX12_waitsFor_43 rfl ?_
      refine lv_bipush (v := (60 : Int32)) hx hb dX12_waitsFor_44 (by decide) ?_
      refine lv_idiv hx hb dX12_waitsFor_46 (by decide) ?_
      refine x_aload_n C hl dX12_waitsFor_47 rfl ?_
      refine x_aload_n C hl dX12_waitsFor_48 rfl ?_
      refine x_get C hW (t := 12) (k := 10) t1 kl_12 (by decide) fl_X12_35 (v := rv b0 (mR σ l0 10)) rfl dX12_waitsFor_49 ?_
      refine x_iload_n C hl dX12_waitsFor_52 rfl ?_
      have t8 := h.1
      replace h := h.2
      have v9 := h.1
      replace h := h.2
      refine x_iald C hW t8 v9 dX12_waitsFor_53 ?_
      refine y_i (x_run (As := [.int (mI σ (mR σ l0 10) (((16 : Int32) * (mI σ (mR σ l0 45) l1.toNatClampNeg)) + l2).toNatClampNeg)]) C hW hS (T_X12_rootOf l l0 (mI σ (mR σ l0 10) (((16 : Int32) * (mI σ (mR σ l0 45) l1.toNatClampNeg)) + l2).toNatClampNeg) σ _ h) t1 kl_12 (CW.of yv_X12_rootOf ml_X12_353) ⟨rfl, rfl, ⟨by decide, by decide⟩, by decide, by decide⟩ rfl hl.1 rfl (by simp [rv_cat, cat_i, cat_l]) dX12_waitsFor_54) hS (fun w11 s10 H locs h hW hS => ?_)
      refine x_iload C hl dX12_waitsFor_57 rfl ?_
      refine y_i (x_run (As := [.int (l1 / (60 : Int32)), .int w11, .int (mI σ (mR σ l0 47) (((16 : Int32) * l1) + l2).toNatClampNeg)]) C hW hS (T_X12_objectOf l l0 (l1 / (60 : Int32)) w11 (mI σ (mR σ l0 47) (((16 : Int32) * l1) + l2).toNatClampNeg) s10 _ h) t1 kl_12 (CW.of yv_X12_objectOf ml_X12_383) ⟨rfl, rfl, ⟨by decide, by decide⟩, by decide, by decide⟩ rfl hl.1 rfl (by decide) dX12_waitsFor_59) hS (fun w13 s12 H locs h hW hS => ?_)
      refine x_istore C hl dX12_waitsFor_62 (by decide) rfl (fun ls hl => ?_)
      refine x_iload C hl dX12_waitsFor_64 rfl ?_
      refine lv_if_lt hx hb dX12_waitsFor_66 (tgt := 101) rfl (fun hc => ?_) (fun hc => ?_)
      · replace h := h.1 hc
        exact t_X12_waitsFor_101 C hr hS hW (hl.keep [false, false, false, false, false, false] rfl) h
      · replace h := h.2 hc
        refine x_iload C hl dX12_waitsFor_69 rfl ?_
        refine x_iload_n C hl dX12_waitsFor_71 rfl ?_
        refine lv_icmp_eq hx hb dX12_waitsFor_72 (tgt := 101) rfl (fun hc => ?_) (fun hc => ?_)
        · replace h := h.1 hc
          exact t_X12_waitsFor_101 C hr hS hW (hl.keep [false, false, false, false, false, false] rfl) h
        · replace h := h.2 hc
          refine x_aload_n C hl dX12_waitsFor_75 rfl ?_
          refine x_get C hW (t := 12) (k := 42) t1 kl_12 (by decide) fl_X12_120 (v := rv b0 (mR s12 l0 42)) rfl dX12_waitsFor_76 ?_
          refine x_iload C hl dX12_waitsFor_79 rfl ?_
          have t14 := h.1
          replace h := h.2
          have v15 := h.1
          replace h := h.2
          refine x_iald C hW t14 v15 dX12_waitsFor_81 ?_
          refine lv_iconst (v := (2 : Int32)) hx hb dX12_waitsFor_82 (by decide) ?_
          refine lv_icmp_ne hx hb dX12_waitsFor_83 (tgt := 101) rfl (fun hc => ?_) (fun hc => ?_)
          · replace h := h.2 hc
            exact t_X12_waitsFor_101 C hr hS hW (hl.keep [false, false, false, false, false, false] rfl) h
          · replace h := h.1 hc
            refine x_aload_n C hl dX12_waitsFor_86 rfl ?_
            refine x_get C hW (t := 12) (k := 76) t1 kl_12 (by decide) fl_X12_184 (v := rv b0 (mR s12 l0 76)) rfl dX12_waitsFor_87 ?_
            refine x_iload C hl dX12_waitsFor_90 rfl ?_
            have t16 := h.1
            replace h := h.2
            have v17 := h.1
            replace h := h.2
            refine x_zald C hW t16 v17 dX12_waitsFor_92 ?_
            refine lv_if_ne hx hb dX12_waitsFor_93 (tgt := 101) rfl (fun hc => ?_) (fun hc => ?_)
            · replace h := h.2 hc
              exact t_X12_waitsFor_101 C hr hS hW (hl.keep [false, false, false, false, false, false] rfl) h
            · replace h := h.1 hc
              refine x_iload C hl dX12_waitsFor_96 rfl ?_
              refine lv_goto hx hb dX12_waitsFor_98 (tgt := 102) rfl ?_
              exact t_X12_waitsFor_102 C hr hS hW (hl.keep [false, false, false, false, false, false] rfl) h
    · replace h := h.1 hc
      exact t_X12_waitsFor_40 C hr hS hW (hl.keep [false, false, false, false, false, false] rfl) h
theorem T_X12_waitsFor (l : Launch) {G : Lay} {D : va_G} {tc : Nat → ClassId} {b0 : Nat} (l0 : Nat) (l1 : Int32) (l2 : Int32) (σ : Mem) (Qx : Int32 → Mem → Prop) (h : X_X12_waitsFor G Qx l0 l1 l2 σ) : MI l yX12_waitsFor cX12_waitsFor 6 ((some FieldType.int)) rm_X12_waitsFor G D tc b0 [rv b0 l0, .int l1, .int l2] σ Qx :=
  x_entry (y := yX12_waitsFor) [.inr (.inr l0), .inl l1, .inl l2] 3 (by decide) (Nat.le_of_ble_eq_true rfl) (fun p e s m args below meth c ls C hr hW hl => t_X12_waitsFor_0 C hr va_S.rf hW (hl.keep [true, true, true, false, false, false] rfl) h)
/-! X12_waitsHow -/
set_option maxRecDepth 20000 in
set_option maxHeartbeats 4000000 in
theorem t_X12_waitsHow_72 {p : Program} {l : Launch} {e : Env} {s : State} {m : MethodId} {args : Array Value} {below : List Frame} {meth : Method} {c : Code} {H : Heap} {locs : List Loc} {D : va_G} {tc : Nat → ClassId} {b0 : Nat} {ls : Array Slot} {G : Lay} {Qx : Int32 → Mem → Prop} {l0 : Nat} {l1 : Int32} {l2 : Int32} {l3 : Int32}  {K4 : Int32 × Int32 × Mem → Prop} {σ : Mem} (C : Cx p s m args meth c cX12_waitsHow RX12 5 D tc b0) (hr : meth.sig.returnType = (some FieldType.int)) (hK4 : ∀ (x2 : Int32) (x3 : Int32) (σ : Mem) (H : Heap) (locs : List Loc) (ls : Array Slot), va_S (AA b0) s.heap H locs → Wd G D tc b0 σ H → hL b0 ls 5 [some (.inr (.inr l0)), some (.inl l1), some (.inl x2), some (.inl x3), none] → K4 (x2, x3, σ) → W p l e rm_X12_waitsHow s m args below meth c H locs 0 0 (MQ below (va_Qi Qx (fun u t => Pw G D tc b0 u t) (AA b0)) args s 0 0 (AA b0)) (F0 m 4 ls [])) (hS : va_S (AA b0) s.heap H locs) (hW : Wd G D tc b0 σ H) (hl : hL b0 ls 5 [some (.inr (.inr l0)), some (.inl l1), some (.inl l2), some (.inl l3), none]) (h : X_X12_waitsHow_72 G Qx K4 l0 l1 l2 l3  σ) : W p l e rm_X12_waitsHow s m args below meth c H locs 0 0 (MQ below (va_Qi Qx (fun u t => Pw G D tc b0 u t) (AA b0)) args s 0 0 (AA b0)) (F0 m 72 ls []) := by
  have hx := C.1
  have hb := C.2.1
  unfold X_X12_waitsHow_72 at h
  refine x_iinc C hl dX12_waitsHow_72 rfl (v := (1 : Int32)) (by decide) (by decide) rfl (fun ls hl => ?_)
  refine lv_goto hx hb dX12_waitsHow_75 (tgt := 4) rfl ?_
  exact hK4 _ _ _ _ _ _ hS hW (hl.keep [true, true, true, true, false] rfl) h
set_option maxRecDepth 20000 in
set_option maxHeartbeats 4000000 in
theorem t_X12_waitsHow_71 {p : Program} {l : Launch} {e : Env} {s : State} {m : MethodId} {args : Array Value} {below : List Frame} {meth : Method} {c : Code} {H : Heap} {locs : List Loc} {D : va_G} {tc : Nat → ClassId} {b0 : Nat} {ls : Array Slot} {G : Lay} {Qx : Int32 → Mem → Prop} {l0 : Nat} {l1 : Int32} {l3 : Int32} {k0 : Int32} {K4 : Int32 × Int32 × Mem → Prop} {σ : Mem} (C : Cx p s m args meth c cX12_waitsHow RX12 5 D tc b0) (hr : meth.sig.returnType = (some FieldType.int)) (hK4 : ∀ (x2 : Int32) (x3 : Int32) (σ : Mem) (H : Heap) (locs : List Loc) (ls : Array Slot), va_S (AA b0) s.heap H locs → Wd G D tc b0 σ H → hL b0 ls 5 [some (.inr (.inr l0)), some (.inl l1), some (.inl x2), some (.inl x3), none] → K4 (x2, x3, σ) → W p l e rm_X12_waitsHow s m args below meth c H locs 0 0 (MQ below (va_Qi Qx (fun u t => Pw G D tc b0 u t) (AA b0)) args s 0 0 (AA b0)) (F0 m 4 ls [])) (hS : va_S (AA b0) s.heap H locs) (hW : Wd G D tc b0 σ H) (hl : hL b0 ls 5 [some (.inr (.inr l0)), some (.inl l1), none, some (.inl l3), none]) (h : X_X12_waitsHow_71 G Qx K4 l0 l1 l3 k0 σ) : W p l e rm_X12_waitsHow s m args below meth c H locs 0 0 (MQ below (va_Qi Qx (fun u t => Pw G D tc b0 u t) (AA b0)) args s 0 0 (AA b0)) (F0 m 71 ls [.int k0]) := by
  have hx := C.1
  have hb := C.2.1
  unfold X_X12_waitsHow_71 at h
  refine x_istore_n C hl dX12_waitsHow_71 (by decide) rfl (fun ls hl => ?_)
  exact t_X12_waitsHow_72 C hr hK4 hS hW (hl.keep [true, true, true, true, false] rfl) h
set_option maxRecDepth 20000 in
set_option maxHeartbeats 4000000 in
theorem t_X12_waitsHow_57 {p : Program} {l : Launch} {e : Env} {s : State} {m : MethodId} {args : Array Value} {below : List Frame} {meth : Method} {c : Code} {H : Heap} {locs : List Loc} {D : va_G} {tc : Nat → ClassId} {b0 : Nat} {ls : Array Slot} {G : Lay} {Qx : Int32 → Mem → Prop} {l0 : Nat} {l1 : Int32} {l2 : Int32} {l3 : Int32} {k0 : Int32} {K4 : Int32 × Int32 × Mem → Prop} {σ : Mem} (C : Cx p s m args meth c cX12_waitsHow RX12 5 D tc b0) (hr : meth.sig.returnType = (some FieldType.int)) (hK4 : ∀ (x2 : Int32) (x3 : Int32) (σ : Mem) (H : Heap) (locs : List Loc) (ls : Array Slot), va_S (AA b0) s.heap H locs → Wd G D tc b0 σ H → hL b0 ls 5 [some (.inr (.inr l0)), some (.inl l1), some (.inl x2), some (.inl x3), none] → K4 (x2, x3, σ) → W p l e rm_X12_waitsHow s m args below meth c H locs 0 0 (MQ below (va_Qi Qx (fun u t => Pw G D tc b0 u t) (AA b0)) args s 0 0 (AA b0)) (F0 m 4 ls [])) (hS : va_S (AA b0) s.heap H locs) (hW : Wd G D tc b0 σ H) (hl : hL b0 ls 5 [some (.inr (.inr l0)), some (.inl l1), some (.inl l2), some (.inl l3), none]) (h : X_X12_waitsHow_57 G Qx K4 l0 l1 l2 l3 k0 σ) : W p l e rm_X12_waitsHow s m args below meth c H locs 0 0 (MQ below (va_Qi Qx (fun u t => Pw G D tc b0 u t) (AA b0)) args s 0 0 (AA b0)) (F0 m 57 ls [.int k0]) := by
  have hx := C.1
  have hb := C.2.1
  unfold X_X12_waitsHow_57 at h
  refine x_istore C hl dX12_waitsHow_57 (by decide) rfl (fun ls hl => ?_)
  refine x_iload C hl dX12_waitsHow_59 rfl ?_
  refine x_iload_n C hl dX12_waitsHow_61 rfl ?_
  refine lv_icmp_le hx hb dX12_waitsHow_62 (tgt := 70) rfl (fun hc => ?_) (fun hc => ?_)
  · replace h := h.1 hc
    refine x_iload_n C hl dX12_waitsHow_70 rfl ?_
    exact t_X12_waitsHow_71 C hr hK4 hS hW (hl.keep [true, true, false, true, false] rfl) h
  · replace h := h.2 hc
    refine x_iload C hl dX12_waitsHow_65 rfl ?_
    refine lv_goto hx hb dX12_waitsHow_67 (tgt := 71) rfl ?_
    exact t_X12_waitsHow_71 C hr hK4 hS hW (hl.keep [true, true, false, true, false] rfl) h
set_option maxRecDepth 20000 in
set_option maxHeartbeats 4000000 in
theorem t_X12_waitsHow_4_n {p : Program} {l : Launch} {e : Env} {s : State} {m : MethodId} {args : Array Value} {below : List Frame} {meth : Method} {c : Code} {D : va_G} {tc : Nat → ClassId} {b0 : Nat} {G : Lay} {Qx : Int32 → Mem → Prop} {l0 : Nat} {l1 : Int32} (C : Cx p s m args meth c cX12_waitsHow RX12 5 D tc b0) (hr : meth.sig.returnType = (some FieldType.int)) (n : Nat) : ∀ (l2 : Int32) (l3 : Int32) (σ : Mem) (H : Heap) (locs : List Loc) (ls : Array Slot), va_S (AA b0) s.heap H locs → Wd G D tc b0 σ H → hL b0 ls 5 [some (.inr (.inr l0)), some (.inl l1), some (.inl l2), some (.inl l3), none] → Lp (X_X12_waitsHow_4_s G Qx l0 l1) n (l2, l3, σ) → W p l e rm_X12_waitsHow s m args below meth c H locs 0 0 (MQ below (va_Qi Qx (fun u t => Pw G D tc b0 u t) (AA b0)) args s 0 0 (AA b0)) (F0 m 4 ls []) := by
  have hx := C.1
  have hb := C.2.1
  induction n with
  | zero => intro l2 l3 σ H locs ls hS hW hl h; exact False.elim h
  | succ n hK4 =>
    intro l2 l3 σ H locs ls hS hW hl h
    replace h : X_X12_waitsHow_4_s G Qx l0 l1 (Lp (X_X12_waitsHow_4_s G Qx l0 l1) n) (l2, l3, σ) := h
    unfold X_X12_waitsHow_4_s at h
    refine x_iload_n C hl dX12_waitsHow_4 rfl ?_
    refine x_aload_n C hl dX12_waitsHow_5 rfl ?_
    have t1 := h.1
    replace h := h.2
    refine x_get C hW (t := 12) (k := 6) t1 kl_12 (by decide) fl_X12_23 (v := rv b0 (mR σ l0 6)) rfl dX12_waitsHow_6 ?_
    refine x_aload_n C hl dX12_waitsHow_9 rfl ?_
    refine x_get C hW (t := 12) (k := 45) t1 kl_12 (by decide) fl_X12_129 (v := rv b0 (mR σ l0 45)) rfl dX12_waitsHow_10 ?_
    refine x_iload_n C hl dX12_waitsHow_13 rfl ?_
    have t2 := h.1
    replace h := h.2
    have v3 := h.1
    replace h := h.2
    refine x_iald C hW t2 v3 dX12_waitsHow_14 ?_
    have t4 := h.1
    replace h := h.2
    have v5 := h.1
    replace h := h.2
    refine x_iald C hW t4 v5 dX12_waitsHow_15 ?_
    refine lv_icmp_ge hx hb dX12_waitsHow_16 (tgt := 78) rfl (fun hc => ?_) (fun hc => ?_)
    · replace h := h.1 hc
      refine x_iload_n C hl dX12_waitsHow_78 rfl ?_
      exact r_i C hr hW hS h dX12_waitsHow_79
    · replace h := h.2 hc
      refine x_aload_n C hl dX12_waitsHow_19 rfl ?_
      refine x_iload_n C hl dX12_waitsHow_20 rfl ?_
      refine x_iload_n C hl dX12_waitsHow_21 rfl ?_
      refine y_i (x_run (As := [.int l1, .int l3]) C hW hS (T_X12_waitsFor l l0 l1 l3 σ _ h) t1 kl_12 (CW.of yv_X12_waitsFor ml_X12_443) ⟨rfl, rfl, ⟨by decide, by decide⟩, by decide, by decide⟩ rfl hl.1 rfl (by decide) dX12_waitsHow_22) hS (fun w7 s6 H locs h hW hS => ?_)
      refine lv_if_ge hx hb dX12_waitsHow_25 (tgt := 31) rfl (fun hc => ?_) (fun hc => ?_)
      · replace h := h.1 hc
        refine x_aload_n C hl dX12_waitsHow_31 rfl ?_
        refine x_get C hW (t := 12) (k := 13) t1 kl_12 (by decide) fl_X12_44 (v := rv b0 (mR s6 l0 13)) rfl dX12_waitsHow_32 ?_
        refine lv_bipush (v := (16 : Int32)) hx hb dX12_waitsHow_35 (by decide) ?_
        refine x_aload_n C hl dX12_waitsHow_37 rfl ?_
        refine x_get C hW (t := 12) (k := 45) t1 kl_12 (by decide) fl_X12_129 (v := rv b0 (mR s6 l0 45)) rfl dX12_waitsHow_38 ?_
        refine x_iload_n C hl dX12_waitsHow_41 rfl ?_
        have t8 := h.1
        replace h := h.2
        have v9 := h.1
        replace h := h.2
        refine x_iald C hW t8 v9 dX12_waitsHow_42 ?_
        refine lv_imul hx hb dX12_waitsHow_43 ?_
        refine x_iload_n C hl dX12_waitsHow_44 rfl ?_
        refine lv_iadd hx hb dX12_waitsHow_45 ?_
        have t10 := h.1
        replace h := h.2
        have v11 := h.1
        replace h := h.2
        refine x_iald C hW t10 v11 dX12_waitsHow_46 ?_
        refine lv_iconst (v := (2 : Int32)) hx hb dX12_waitsHow_47 (by decide) ?_
        refine lv_iand hx hb dX12_waitsHow_48 ?_
        refine lv_if_eq hx hb dX12_waitsHow_49 (tgt := 56) rfl (fun hc => ?_) (fun hc => ?_)
        · replace h := h.1 hc
          refine lv_iconst (v := (1 : Int32)) hx hb dX12_waitsHow_56 (by decide) ?_
          exact t_X12_waitsHow_57 C hr hK4 hS hW (hl.keep [true, true, true, true, false] rfl) h
        · replace h := h.2 hc
          refine lv_iconst (v := (2 : Int32)) hx hb dX12_waitsHow_52 (by decide) ?_
          refine lv_goto hx hb dX12_waitsHow_53 (tgt := 57) rfl ?_
          exact t_X12_waitsHow_57 C hr hK4 hS hW (hl.keep [true, true, true, true, false] rfl) h
      · replace h := h.2 hc
        refine lv_goto hx hb dX12_waitsHow_28 (tgt := 72) rfl ?_
        exact t_X12_waitsHow_72 C hr hK4 hS hW (hl.keep [true, true, true, true, false] rfl) h
set_option maxRecDepth 20000 in
set_option maxHeartbeats 4000000 in
theorem t_X12_waitsHow_4 {p : Program} {l : Launch} {e : Env} {s : State} {m : MethodId} {args : Array Value} {below : List Frame} {meth : Method} {c : Code} {H : Heap} {locs : List Loc} {D : va_G} {tc : Nat → ClassId} {b0 : Nat} {ls : Array Slot} {G : Lay} {Qx : Int32 → Mem → Prop} {l0 : Nat} {l1 : Int32} {l2 : Int32} {l3 : Int32}  {σ : Mem} (C : Cx p s m args meth c cX12_waitsHow RX12 5 D tc b0) (hr : meth.sig.returnType = (some FieldType.int)) (hS : va_S (AA b0) s.heap H locs) (hW : Wd G D tc b0 σ H) (hl : hL b0 ls 5 [some (.inr (.inr l0)), some (.inl l1), some (.inl l2), some (.inl l3), none]) (h : X_X12_waitsHow_4 G Qx l0 l1 l2 l3 σ) : W p l e rm_X12_waitsHow s m args below meth c H locs 0 0 (MQ below (va_Qi Qx (fun u t => Pw G D tc b0 u t) (AA b0)) args s 0 0 (AA b0)) (F0 m 4 ls []) := by
  obtain ⟨n, h⟩ := h
  exact t_X12_waitsHow_4_n C hr n l2 l3 σ H locs ls hS hW hl h
set_option maxRecDepth 20000 in
set_option maxHeartbeats 4000000 in
theorem t_X12_waitsHow_0 {p : Program} {l : Launch} {e : Env} {s : State} {m : MethodId} {args : Array Value} {below : List Frame} {meth : Method} {c : Code} {H : Heap} {locs : List Loc} {D : va_G} {tc : Nat → ClassId} {b0 : Nat} {ls : Array Slot} {G : Lay} {Qx : Int32 → Mem → Prop} {l0 : Nat} {l1 : Int32}  {σ : Mem} (C : Cx p s m args meth c cX12_waitsHow RX12 5 D tc b0) (hr : meth.sig.returnType = (some FieldType.int)) (hS : va_S (AA b0) s.heap H locs) (hW : Wd G D tc b0 σ H) (hl : hL b0 ls 5 [some (.inr (.inr l0)), some (.inl l1), none, none, none]) (h : X_X12_waitsHow_0 G Qx l0 l1  σ) : W p l e rm_X12_waitsHow s m args below meth c H locs 0 0 (MQ below (va_Qi Qx (fun u t => Pw G D tc b0 u t) (AA b0)) args s 0 0 (AA b0)) (F0 m 0 ls []) := by
  have hx := C.1
  have hb := C.2.1
  unfold X_X12_waitsHow_0 at h
  refine lv_iconst (v := (0 : Int32)) hx hb dX12_waitsHow_0 (by decide) ?_
  refine x_istore_n C hl dX12_waitsHow_1 (by decide) rfl (fun ls hl => ?_)
  refine lv_iconst (v := (0 : Int32)) hx hb dX12_waitsHow_2 (by decide) ?_
  refine x_istore_n C hl dX12_waitsHow_3 (by decide) rfl (fun ls hl => ?_)
  exact t_X12_waitsHow_4 C hr hS hW (hl.keep [true, true, true, true, false] rfl) h
theorem T_X12_waitsHow (l : Launch) {G : Lay} {D : va_G} {tc : Nat → ClassId} {b0 : Nat} (l0 : Nat) (l1 : Int32) (σ : Mem) (Qx : Int32 → Mem → Prop) (h : X_X12_waitsHow G Qx l0 l1 σ) : MI l yX12_waitsHow cX12_waitsHow 5 ((some FieldType.int)) rm_X12_waitsHow G D tc b0 [rv b0 l0, .int l1] σ Qx :=
  x_entry (y := yX12_waitsHow) [.inr (.inr l0), .inl l1] 3 (by decide) (Nat.le_of_ble_eq_true rfl) (fun p e s m args below meth c ls C hr hW hl => t_X12_waitsHow_0 C hr va_S.rf hW (hl.keep [true, true, false, false, false] rfl) h)
/-! X12_insert -/
set_option maxRecDepth 20000 in
set_option maxHeartbeats 4000000 in
theorem t_X12_insert_84 {p : Program} {l : Launch} {e : Env} {s : State} {m : MethodId} {args : Array Value} {below : List Frame} {meth : Method} {c : Code} {H : Heap} {locs : List Loc} {D : va_G} {tc : Nat → ClassId} {b0 : Nat} {ls : Array Slot} {G : Lay} {Qx : Int32 → Mem → Prop} {l0 : Nat} {l1 : Int32} {l2 : Int32} {l3 : Int32} {k0 : Nat} {k1 : Int32} {k2 : Int32} {K9 : Int32 × Mem → Prop} {σ : Mem} (C : Cx p s m args meth c cX12_insert RX12 5 D tc b0) (hr : meth.sig.returnType = (some FieldType.boolean)) (hK9 : ∀ (x3 : Int32) (σ : Mem) (H : Heap) (locs : List Loc) (ls : Array Slot), va_S (AA b0) s.heap H locs → Wd G D tc b0 σ H → hL b0 ls 5 [some (.inr (.inr l0)), some (.inl l1), some (.inl l2), some (.inl x3), none] → K9 (x3, σ) → W p l e rm_X12_insert s m args below meth c H locs 0 0 (MQ below (va_Qi Qx (fun u t => Pw G D tc b0 u t) (AA b0)) args s 0 0 (AA b0)) (F0 m 9 ls [])) (hS : va_S (AA b0) s.heap H locs) (hW : Wd G D tc b0 σ H) (hl : hL b0 ls 5 [some (.inr (.inr l0)), some (.inl l1), some (.inl l2), some (.inl l3), none]) (h : X_X12_insert_84 G Qx K9 l0 l1 l2 l3 k0 k1 k2 σ) : W p l e rm_X12_insert s m args below meth c H locs 0 0 (MQ below (va_Qi Qx (fun u t => Pw G D tc b0 u t) (AA b0)) args s 0 0 (AA b0)) (F0 m 84 ls [.int k2, .int k1, rv b0 k0]) := by
  have hx := C.1
  have hb := C.2.1
  unfold X_X12_insert_84 at h
  have t1 := h.1
  replace h := h.2
  have v2 := h.1
  replace h := h.2
  refine x_iast C hW hS t1 v2 dX12_insert_84 (fun H locs hW hS => ?_)
  obtain ⟨s3, e_s3⟩ : ∃ z : Mem, z = (sI σ k0 k1.toNatClampNeg k2) := ⟨_, rfl⟩
  replace h := h s3 e_s3
  replace hW : Wd G D tc b0 s3 H := by rw [e_s3]; exact hW
  refine x_iinc C hl dX12_insert_85 rfl (v := (1 : Int32)) (by decide) (by decide) rfl (fun ls hl => ?_)
  refine lv_goto hx hb dX12_insert_88 (tgt := 9) rfl ?_
  exact hK9 _ _ _ _ _ hS hW (hl.keep [true, true, true, true, false] rfl) h
set_option maxRecDepth 20000 in
set_option maxHeartbeats 4000000 in
theorem t_X12_insert_49 {p : Program} {l : Launch} {e : Env} {s : State} {m : MethodId} {args : Array Value} {below : List Frame} {meth : Method} {c : Code} {H : Heap} {locs : List Loc} {D : va_G} {tc : Nat → ClassId} {b0 : Nat} {ls : Array Slot} {G : Lay} {Qx : Int32 → Mem → Prop} {l0 : Nat} {l1 : Int32} {l2 : Int32} {l3 : Int32} {k0 : Nat} {k1 : Int32} {k2 : Int32} {K9 : Int32 × Mem → Prop} {σ : Mem} (C : Cx p s m args meth c cX12_insert RX12 5 D tc b0) (hr : meth.sig.returnType = (some FieldType.boolean)) (hK9 : ∀ (x3 : Int32) (σ : Mem) (H : Heap) (locs : List Loc) (ls : Array Slot), va_S (AA b0) s.heap H locs → Wd G D tc b0 σ H → hL b0 ls 5 [some (.inr (.inr l0)), some (.inl l1), some (.inl l2), some (.inl x3), none] → K9 (x3, σ) → W p l e rm_X12_insert s m args below meth c H locs 0 0 (MQ below (va_Qi Qx (fun u t => Pw G D tc b0 u t) (AA b0)) args s 0 0 (AA b0)) (F0 m 9 ls [])) (hS : va_S (AA b0) s.heap H locs) (hW : Wd G D tc b0 σ H) (hl : hL b0 ls 5 [some (.inr (.inr l0)), some (.inl l1), some (.inl l2), some (.inl l3), none]) (h : X_X12_insert_49 G Qx K9 l0 l1 l2 l3 k0 k1 k2 σ) : W p l e rm_X12_insert s m args below meth c H locs 0 0 (MQ below (va_Qi Qx (fun u t => Pw G D tc b0 u t) (AA b0)) args s 0 0 (AA b0)) (F0 m 49 ls [.int k2, .int k1, rv b0 k0]) := by
  have hx := C.1
  have hb := C.2.1
  unfold X_X12_insert_49 at h
  have t1 := h.1
  replace h := h.2
  have v2 := h.1
  replace h := h.2
  refine x_zast C hW hS t1 v2 dX12_insert_49 (fun H locs hW hS => ?_)
  obtain ⟨s3, e_s3⟩ : ∃ z : Mem, z = (sI σ k0 k1.toNatClampNeg (vp_nar .boolean k2)) := ⟨_, rfl⟩
  replace h := h s3 e_s3
  replace hW : Wd G D tc b0 s3 H := by rw [e_s3]; exact hW
  refine x_aload_n C hl dX12_insert_50 rfl ?_
  have t4 := h.1
  replace h := h.2
  refine x_get C hW (t := 12) (k := 78) t4 kl_12 (by decide) fl_X12_190 (v := rv b0 (mR s3 l0 78)) rfl dX12_insert_51 ?_
  refine x_iload_n C hl dX12_insert_54 rfl ?_
  refine x_aload_n C hl dX12_insert_55 rfl ?_
  refine x_get C hW (t := 12) (k := 77) t4 kl_12 (by decide) fl_X12_187 (v := rv b0 (mR s3 l0 77)) rfl dX12_insert_56 ?_
  refine lv_bipush (v := (16 : Int32)) hx hb dX12_insert_59 (by decide) ?_
  refine x_iload_n C hl dX12_insert_61 rfl ?_
  refine lv_imul hx hb dX12_insert_62 ?_
  refine x_iload_n C hl dX12_insert_63 rfl ?_
  refine lv_iadd hx hb dX12_insert_64 ?_
  have t5 := h.1
  replace h := h.2
  have v6 := h.1
  replace h := h.2
  refine x_zald C hW t5 v6 dX12_insert_65 ?_
  refine lv_if_eq hx hb dX12_insert_66 (tgt := 73) rfl (fun hc => ?_) (fun hc => ?_)
  · replace h := h.1 hc
    refine x_aload_n C hl dX12_insert_73 rfl ?_
    refine x_get C hW (t := 12) (k := 47) t4 kl_12 (by decide) fl_X12_135 (v := rv b0 (mR s3 l0 47)) rfl dX12_insert_74 ?_
    refine lv_bipush (v := (16 : Int32)) hx hb dX12_insert_77 (by decide) ?_
    refine x_iload_n C hl dX12_insert_79 rfl ?_
    refine lv_imul hx hb dX12_insert_80 ?_
    refine x_iload_n C hl dX12_insert_81 rfl ?_
    refine lv_iadd hx hb dX12_insert_82 ?_
    have t7 := h.1
    replace h := h.2
    have v8 := h.1
    replace h := h.2
    refine x_iald C hW t7 v8 dX12_insert_83 ?_
    exact t_X12_insert_84 C hr hK9 hS hW (hl.keep [true, true, true, true, false] rfl) h
  · replace h := h.2 hc
    refine lv_iconst (v := (0 : Int32)) hx hb dX12_insert_69 (by decide) ?_
    refine lv_goto hx hb dX12_insert_70 (tgt := 84) rfl ?_
    exact t_X12_insert_84 C hr hK9 hS hW (hl.keep [true, true, true, true, false] rfl) h
set_option maxRecDepth 20000 in
set_option maxHeartbeats 4000000 in
theorem t_X12_insert_48 {p : Program} {l : Launch} {e : Env} {s : State} {m : MethodId} {args : Array Value} {below : List Frame} {meth : Method} {c : Code} {H : Heap} {locs : List Loc} {D : va_G} {tc : Nat → ClassId} {b0 : Nat} {ls : Array Slot} {G : Lay} {Qx : Int32 → Mem → Prop} {l0 : Nat} {l1 : Int32} {l2 : Int32} {l3 : Int32} {k0 : Nat} {k1 : Int32} {K9 : Int32 × Mem → Prop} {σ : Mem} (C : Cx p s m args meth c cX12_insert RX12 5 D tc b0) (hr : meth.sig.returnType = (some FieldType.boolean)) (hK9 : ∀ (x3 : Int32) (σ : Mem) (H : Heap) (locs : List Loc) (ls : Array Slot), va_S (AA b0) s.heap H locs → Wd G D tc b0 σ H → hL b0 ls 5 [some (.inr (.inr l0)), some (.inl l1), some (.inl l2), some (.inl x3), none] → K9 (x3, σ) → W p l e rm_X12_insert s m args below meth c H locs 0 0 (MQ below (va_Qi Qx (fun u t => Pw G D tc b0 u t) (AA b0)) args s 0 0 (AA b0)) (F0 m 9 ls [])) (hS : va_S (AA b0) s.heap H locs) (hW : Wd G D tc b0 σ H) (hl : hL b0 ls 5 [some (.inr (.inr l0)), some (.inl l1), some (.inl l2), some (.inl l3), none]) (h : X_X12_insert_48 G Qx K9 l0 l1 l2 l3 k0 k1 σ) : W p l e rm_X12_insert s m args below meth c H locs 0 0 (MQ below (va_Qi Qx (fun u t => Pw G D tc b0 u t) (AA b0)) args s 0 0 (AA b0)) (F0 m 48 ls [.int k1, rv b0 k0]) := by
  have hx := C.1
  have hb := C.2.1
  unfold X_X12_insert_48 at h
  refine lv_iconst (v := (0 : Int32)) hx hb dX12_insert_48 (by decide) ?_
  exact t_X12_insert_49 C hr hK9 hS hW (hl.keep [true, true, true, true, false] rfl) h
set_option maxRecDepth 20000 in
set_option maxHeartbeats 4000000 in
theorem t_X12_insert_127 {p : Program} {l : Launch} {e : Env} {s : State} {m : MethodId} {args : Array Value} {below : List Frame} {meth : Method} {c : Code} {H : Heap} {locs : List Loc} {D : va_G} {tc : Nat → ClassId} {b0 : Nat} {ls : Array Slot} {G : Lay} {Qx : Int32 → Mem → Prop} {l0 : Nat} {l1 : Int32} {l2 : Int32} {l4 : Int32} {k0 : Int32} {k1 : Int32} {K96 : Int32 × Int32 × Mem → Prop} {σ : Mem} (C : Cx p s m args meth c cX12_insert RX12 5 D tc b0) (hr : meth.sig.returnType = (some FieldType.boolean)) (hK96 : ∀ (x3 : Int32) (x4 : Int32) (σ : Mem) (H : Heap) (locs : List Loc) (ls : Array Slot), va_S (AA b0) s.heap H locs → Wd G D tc b0 σ H → hL b0 ls 5 [some (.inr (.inr l0)), some (.inl l1), some (.inl l2), some (.inl x3), some (.inl x4)] → K96 (x3, x4, σ) → W p l e rm_X12_insert s m args below meth c H locs 0 0 (MQ below (va_Qi Qx (fun u t => Pw G D tc b0 u t) (AA b0)) args s 0 0 (AA b0)) (F0 m 96 ls [])) (hS : va_S (AA b0) s.heap H locs) (hW : Wd G D tc b0 σ H) (hl : hL b0 ls 5 [some (.inr (.inr l0)), some (.inl l1), some (.inl l2), none, some (.inl l4)]) (h : X_X12_insert_127 G Qx K96 l0 l1 l2 l4 k0 k1 σ) : W p l e rm_X12_insert s m args below meth c H locs 0 0 (MQ below (va_Qi Qx (fun u t => Pw G D tc b0 u t) (AA b0)) args s 0 0 (AA b0)) (F0 m 127 ls [.int k1, .int k0]) := by
  have hx := C.1
  have hb := C.2.1
  unfold X_X12_insert_127 at h
  refine lv_iadd hx hb dX12_insert_127 ?_
  refine x_istore_n C hl dX12_insert_128 (by decide) rfl (fun ls hl => ?_)
  refine x_iinc C hl dX12_insert_129 rfl (v := (1 : Int32)) (by decide) (by decide) rfl (fun ls hl => ?_)
  refine lv_goto hx hb dX12_insert_132 (tgt := 96) rfl ?_
  exact hK96 _ _ _ _ _ _ hS hW (hl.keep [true, true, true, true, true] rfl) h
set_option maxRecDepth 20000 in
set_option maxHeartbeats 4000000 in
theorem t_X12_insert_233_n {p : Program} {l : Launch} {e : Env} {s : State} {m : MethodId} {args : Array Value} {below : List Frame} {meth : Method} {c : Code} {D : va_G} {tc : Nat → ClassId} {b0 : Nat} {G : Lay} {Qx : Int32 → Mem → Prop} {l0 : Nat} {l1 : Int32} (C : Cx p s m args meth c cX12_insert RX12 5 D tc b0) (hr : meth.sig.returnType = (some FieldType.boolean)) (n : Nat) : ∀ (l4 : Int32) (σ : Mem) (H : Heap) (locs : List Loc) (ls : Array Slot), va_S (AA b0) s.heap H locs → Wd G D tc b0 σ H → hL b0 ls 5 [some (.inr (.inr l0)), some (.inl l1), none, none, some (.inl l4)] → Lp (X_X12_insert_233_s G Qx l0 l1) n (l4, σ) → W p l e rm_X12_insert s m args below meth c H locs 0 0 (MQ below (va_Qi Qx (fun u t => Pw G D tc b0 u t) (AA b0)) args s 0 0 (AA b0)) (F0 m 233 ls []) := by
  have hx := C.1
  have hb := C.2.1
  induction n with
  | zero => intro l4 σ H locs ls hS hW hl h; exact False.elim h
  | succ n hK233 =>
    intro l4 σ H locs ls hS hW hl h
    replace h : X_X12_insert_233_s G Qx l0 l1 (Lp (X_X12_insert_233_s G Qx l0 l1) n) (l4, σ) := h
    unfold X_X12_insert_233_s at h
    refine x_iload C hl dX12_insert_233 rfl ?_
    refine lv_bipush (v := (16 : Int32)) hx hb dX12_insert_235 (by decide) ?_
    refine lv_icmp_ge hx hb dX12_insert_237 (tgt := 268) rfl (fun hc => ?_) (fun hc => ?_)
    · replace h := h.1 hc
      refine x_aload_n C hl dX12_insert_268 rfl ?_
      refine lv_dup hx hb dX12_insert_269 (rv_cat _ _) ?_
      have t1 := h.1
      replace h := h.2
      refine x_get C hW (t := 12) (k := 26) t1 kl_12 (by decide) fl_X12_344 (v := .int (mI σ l0 26)) rfl dX12_insert_270 ?_
      refine lv_iconst (v := (1 : Int32)) hx hb dX12_insert_273 (by decide) ?_
      refine lv_iadd hx hb dX12_insert_274 ?_
      refine x_putI C hW hS (t := 12) (k := 26) t1 kl_12 (by decide) fl_X12_344 rfl rfl rfl rfl dX12_insert_275 (fun H locs hW hS => ?_)
      obtain ⟨s2, e_s2⟩ : ∃ z : Mem, z = (sI σ l0 26 ((mI σ l0 26) + (1 : Int32))) := ⟨_, rfl⟩
      replace h := h s2 e_s2
      replace hW : Wd G D tc b0 s2 H := by rw [e_s2]; exact hW
      refine x_aload_n C hl dX12_insert_278 rfl ?_
      refine x_get C hW (t := 12) (k := 76) t1 kl_12 (by decide) fl_X12_184 (v := rv b0 (mR s2 l0 76)) rfl dX12_insert_279 ?_
      refine x_iload_n C hl dX12_insert_282 rfl ?_
      refine lv_iconst (v := (1 : Int32)) hx hb dX12_insert_283 (by decide) ?_
      have t3 := h.1
      replace h := h.2
      have v4 := h.1
      replace h := h.2
      refine x_zast C hW hS t3 v4 dX12_insert_284 (fun H locs hW hS => ?_)
      obtain ⟨s5, e_s5⟩ : ∃ z : Mem, z = (sI s2 (mR s2 l0 76) l1.toNatClampNeg (vp_nar .boolean (1 : Int32))) := ⟨_, rfl⟩
      replace h := h s5 e_s5
      replace hW : Wd G D tc b0 s5 H := by rw [e_s5]; exact hW
      refine x_aload_n C hl dX12_insert_285 rfl ?_
      refine lv_iconst (v := (0 : Int32)) hx hb dX12_insert_286 (by decide) ?_
      refine x_iload_n C hl dX12_insert_287 rfl ?_
      refine lv_iconst (v := (0 : Int32)) hx hb dX12_insert_288 (by decide) ?_
      refine y_v (x_run (As := [.int (0 : Int32), .int l1, .int (0 : Int32)]) C hW hS (T_X12_written l l0 (0 : Int32) l1 (0 : Int32) s5 _ h) t1 kl_12 (CW.of yv_X12_written ml_X12_459) ⟨rfl, rfl, ⟨by decide, by decide⟩, by decide, by decide⟩ rfl hl.1 rfl (by decide) dX12_insert_289) hS (fun s6 H locs h hW hS => ?_)
      refine lv_iconst (v := (1 : Int32)) hx hb dX12_insert_292 (by decide) ?_
      exact r_z C hr hW hS h.1 h.2 dX12_insert_293
    · replace h := h.2 hc
      refine x_aload_n C hl dX12_insert_240 rfl ?_
      have t7 := h.1
      replace h := h.2
      refine x_get C hW (t := 12) (k := 31) t7 kl_12 (by decide) fl_X12_89 (v := rv b0 (mR σ l0 31)) rfl dX12_insert_241 ?_
      refine lv_bipush (v := (16 : Int32)) hx hb dX12_insert_244 (by decide) ?_
      refine x_aload_n C hl dX12_insert_246 rfl ?_
      refine x_get C hW (t := 12) (k := 26) t7 kl_12 (by decide) fl_X12_344 (v := .int (mI σ l0 26)) rfl dX12_insert_247 ?_
      refine lv_imul hx hb dX12_insert_250 ?_
      refine x_iload C hl dX12_insert_251 rfl ?_
      refine lv_iadd hx hb dX12_insert_253 ?_
      refine x_aload_n C hl dX12_insert_254 rfl ?_
      refine x_get C hW (t := 12) (k := 78) t7 kl_12 (by decide) fl_X12_190 (v := rv b0 (mR σ l0 78)) rfl dX12_insert_255 ?_
      refine x_iload C hl dX12_insert_258 rfl ?_
      have t8 := h.1
      replace h := h.2
      have v9 := h.1
      replace h := h.2
      refine x_iald C hW t8 v9 dX12_insert_260 ?_
      have t10 := h.1
      replace h := h.2
      have v11 := h.1
      replace h := h.2
      refine x_iast C hW hS t10 v11 dX12_insert_261 (fun H locs hW hS => ?_)
      obtain ⟨s12, e_s12⟩ : ∃ z : Mem, z = (sI σ (mR σ l0 31) (((16 : Int32) * (mI σ l0 26)) + l4).toNatClampNeg (mI σ (mR σ l0 78) l4.toNatClampNeg)) := ⟨_, rfl⟩
      replace h := h s12 e_s12
      replace hW : Wd G D tc b0 s12 H := by rw [e_s12]; exact hW
      refine x_iinc C hl dX12_insert_262 rfl (v := (1 : Int32)) (by decide) (by decide) rfl (fun ls hl => ?_)
      refine lv_goto hx hb dX12_insert_265 (tgt := 233) rfl ?_
      exact hK233 _ _ _ _ _ hS hW (hl.keep [true, true, false, false, true] rfl) h
set_option maxRecDepth 20000 in
set_option maxHeartbeats 4000000 in
theorem t_X12_insert_233 {p : Program} {l : Launch} {e : Env} {s : State} {m : MethodId} {args : Array Value} {below : List Frame} {meth : Method} {c : Code} {H : Heap} {locs : List Loc} {D : va_G} {tc : Nat → ClassId} {b0 : Nat} {ls : Array Slot} {G : Lay} {Qx : Int32 → Mem → Prop} {l0 : Nat} {l1 : Int32} {l4 : Int32}  {σ : Mem} (C : Cx p s m args meth c cX12_insert RX12 5 D tc b0) (hr : meth.sig.returnType = (some FieldType.boolean)) (hS : va_S (AA b0) s.heap H locs) (hW : Wd G D tc b0 σ H) (hl : hL b0 ls 5 [some (.inr (.inr l0)), some (.inl l1), none, none, some (.inl l4)]) (h : X_X12_insert_233 G Qx l0 l1 l4 σ) : W p l e rm_X12_insert s m args below meth c H locs 0 0 (MQ below (va_Qi Qx (fun u t => Pw G D tc b0 u t) (AA b0)) args s 0 0 (AA b0)) (F0 m 233 ls []) := by
  obtain ⟨n, h⟩ := h
  exact t_X12_insert_233_n C hr n l4 σ H locs ls hS hW hl h
set_option maxRecDepth 20000 in
set_option maxHeartbeats 4000000 in
theorem t_X12_insert_96_n {p : Program} {l : Launch} {e : Env} {s : State} {m : MethodId} {args : Array Value} {below : List Frame} {meth : Method} {c : Code} {D : va_G} {tc : Nat → ClassId} {b0 : Nat} {G : Lay} {Qx : Int32 → Mem → Prop} {l0 : Nat} {l1 : Int32} {l2 : Int32} (C : Cx p s m args meth c cX12_insert RX12 5 D tc b0) (hr : meth.sig.returnType = (some FieldType.boolean)) (n : Nat) : ∀ (l3 : Int32) (l4 : Int32) (σ : Mem) (H : Heap) (locs : List Loc) (ls : Array Slot), va_S (AA b0) s.heap H locs → Wd G D tc b0 σ H → hL b0 ls 5 [some (.inr (.inr l0)), some (.inl l1), some (.inl l2), some (.inl l3), some (.inl l4)] → Lp (X_X12_insert_96_s G Qx l0 l1 l2) n (l3, l4, σ) → W p l e rm_X12_insert s m args below meth c H locs 0 0 (MQ below (va_Qi Qx (fun u t => Pw G D tc b0 u t) (AA b0)) args s 0 0 (AA b0)) (F0 m 96 ls []) := by
  have hx := C.1
  have hb := C.2.1
  induction n with
  | zero => intro l3 l4 σ H locs ls hS hW hl h; exact False.elim h
  | succ n hK96 =>
    intro l3 l4 σ H locs ls hS hW hl h
    replace h : X_X12_insert_96_s G Qx l0 l1 l2 (Lp (X_X12_insert_96_s G Qx l0 l1 l2) n) (l3, l4, σ) := h
    unfold X_X12_insert_96_s at h
    refine x_iload C hl dX12_insert_96 rfl ?_
    refine x_aload_n C hl dX12_insert_98 rfl ?_
    have t1 := h.1
    replace h := h.2
    refine x_get C hW (t := 12) (k := 26) t1 kl_12 (by decide) fl_X12_344 (v := .int (mI σ l0 26)) rfl dX12_insert_99 ?_
    refine lv_icmp_ge hx hb dX12_insert_102 (tgt := 135) rfl (fun hc => ?_) (fun hc => ?_)
    · replace h := h.1 hc
      refine x_iload_n C hl dX12_insert_135 rfl ?_
      refine lv_bipush (v := (60 : Int32)) hx hb dX12_insert_136 (by decide) ?_
      refine lv_icmp_lt hx hb dX12_insert_138 (tgt := 148) rfl (fun hc => ?_) (fun hc => ?_)
      · replace h := h.1 hc
        refine x_aload_n C hl dX12_insert_148 rfl ?_
        refine x_aload_n C hl dX12_insert_149 rfl ?_
        refine x_get C hW (t := 12) (k := 43) t1 kl_12 (by decide) fl_X12_123 (v := rv b0 (mR σ l0 43)) rfl dX12_insert_150 ?_
        refine x_iload_n C hl dX12_insert_153 rfl ?_
        have t2 := h.1
        replace h := h.2
        have v3 := h.1
        replace h := h.2
        refine x_iald C hW t2 v3 dX12_insert_154 ?_
        refine x_aload_n C hl dX12_insert_155 rfl ?_
        refine x_get C hW (t := 12) (k := 44) t1 kl_12 (by decide) fl_X12_126 (v := rv b0 (mR σ l0 44)) rfl dX12_insert_156 ?_
        refine x_iload_n C hl dX12_insert_159 rfl ?_
        have t4 := h.1
        replace h := h.2
        have v5 := h.1
        replace h := h.2
        refine x_iald C hW t4 v5 dX12_insert_160 ?_
        refine x_iload_n C hl dX12_insert_161 rfl ?_
        refine x_aload_n C hl dX12_insert_162 rfl ?_
        refine x_get C hW (t := 12) (k := 78) t1 kl_12 (by decide) fl_X12_190 (v := rv b0 (mR σ l0 78)) rfl dX12_insert_163 ?_
        refine lv_iconst (v := (0 : Int32)) hx hb dX12_insert_166 (by decide) ?_
        refine y_i (x_run (As := [.int (mI σ (mR σ l0 43) l1.toNatClampNeg), .int (mI σ (mR σ l0 44) l1.toNatClampNeg), .int l2, rv b0 (mR σ l0 78), .int (0 : Int32)]) C hW hS (T_X12_broken l l0 (mI σ (mR σ l0 43) l1.toNatClampNeg) (mI σ (mR σ l0 44) l1.toNatClampNeg) l2 (mR σ l0 78) (0 : Int32) σ _ h) t1 kl_12 (CW.of yv_X12_broken ml_X12_430) ⟨rfl, rfl, ⟨by decide, by decide⟩, by decide, by decide⟩ rfl hl.1 rfl (by decide) dX12_insert_167) hS (fun w7 s6 H locs h hW hS => ?_)
        refine lv_if_eq hx hb dX12_insert_170 (tgt := 180) rfl (fun hc => ?_) (fun hc => ?_)
        · replace h := h.1 hc
          refine x_aload_n C hl dX12_insert_180 rfl ?_
          refine x_get C hW (t := 12) (k := 27) t1 kl_12 (by decide) fl_X12_77 (v := rv b0 (mR s6 l0 27)) rfl dX12_insert_181 ?_
          refine x_aload_n C hl dX12_insert_184 rfl ?_
          refine x_get C hW (t := 12) (k := 26) t1 kl_12 (by decide) fl_X12_344 (v := .int (mI s6 l0 26)) rfl dX12_insert_185 ?_
          refine x_aload_n C hl dX12_insert_188 rfl ?_
          refine x_get C hW (t := 12) (k := 43) t1 kl_12 (by decide) fl_X12_123 (v := rv b0 (mR s6 l0 43)) rfl dX12_insert_189 ?_
          refine x_iload_n C hl dX12_insert_192 rfl ?_
          have t8 := h.1
          replace h := h.2
          have v9 := h.1
          replace h := h.2
          refine x_iald C hW t8 v9 dX12_insert_193 ?_
          have t10 := h.1
          replace h := h.2
          have v11 := h.1
          replace h := h.2
          refine x_iast C hW hS t10 v11 dX12_insert_194 (fun H locs hW hS => ?_)
          obtain ⟨s12, e_s12⟩ : ∃ z : Mem, z = (sI s6 (mR s6 l0 27) (mI s6 l0 26).toNatClampNeg (mI s6 (mR s6 l0 43) l1.toNatClampNeg)) := ⟨_, rfl⟩
          replace h := h s12 e_s12
          replace hW : Wd G D tc b0 s12 H := by rw [e_s12]; exact hW
          refine x_aload_n C hl dX12_insert_195 rfl ?_
          refine x_get C hW (t := 12) (k := 28) t1 kl_12 (by decide) fl_X12_80 (v := rv b0 (mR s12 l0 28)) rfl dX12_insert_196 ?_
          refine x_aload_n C hl dX12_insert_199 rfl ?_
          refine x_get C hW (t := 12) (k := 26) t1 kl_12 (by decide) fl_X12_344 (v := .int (mI s12 l0 26)) rfl dX12_insert_200 ?_
          refine x_aload_n C hl dX12_insert_203 rfl ?_
          refine x_get C hW (t := 12) (k := 44) t1 kl_12 (by decide) fl_X12_126 (v := rv b0 (mR s12 l0 44)) rfl dX12_insert_204 ?_
          refine x_iload_n C hl dX12_insert_207 rfl ?_
          have t13 := h.1
          replace h := h.2
          have v14 := h.1
          replace h := h.2
          refine x_iald C hW t13 v14 dX12_insert_208 ?_
          have t15 := h.1
          replace h := h.2
          have v16 := h.1
          replace h := h.2
          refine x_iast C hW hS t15 v16 dX12_insert_209 (fun H locs hW hS => ?_)
          obtain ⟨s17, e_s17⟩ : ∃ z : Mem, z = (sI s12 (mR s12 l0 28) (mI s12 l0 26).toNatClampNeg (mI s12 (mR s12 l0 44) l1.toNatClampNeg)) := ⟨_, rfl⟩
          replace h := h s17 e_s17
          replace hW : Wd G D tc b0 s17 H := by rw [e_s17]; exact hW
          refine x_aload_n C hl dX12_insert_210 rfl ?_
          refine x_get C hW (t := 12) (k := 29) t1 kl_12 (by decide) fl_X12_83 (v := rv b0 (mR s17 l0 29)) rfl dX12_insert_211 ?_
          refine x_aload_n C hl dX12_insert_214 rfl ?_
          refine x_get C hW (t := 12) (k := 26) t1 kl_12 (by decide) fl_X12_344 (v := .int (mI s17 l0 26)) rfl dX12_insert_215 ?_
          refine x_iload_n C hl dX12_insert_218 rfl ?_
          have t18 := h.1
          replace h := h.2
          have v19 := h.1
          replace h := h.2
          refine x_iast C hW hS t18 v19 dX12_insert_219 (fun H locs hW hS => ?_)
          obtain ⟨s20, e_s20⟩ : ∃ z : Mem, z = (sI s17 (mR s17 l0 29) (mI s17 l0 26).toNatClampNeg l2) := ⟨_, rfl⟩
          replace h := h s20 e_s20
          replace hW : Wd G D tc b0 s20 H := by rw [e_s20]; exact hW
          refine x_aload_n C hl dX12_insert_220 rfl ?_
          refine x_get C hW (t := 12) (k := 30) t1 kl_12 (by decide) fl_X12_86 (v := rv b0 (mR s20 l0 30)) rfl dX12_insert_221 ?_
          refine x_aload_n C hl dX12_insert_224 rfl ?_
          refine x_get C hW (t := 12) (k := 26) t1 kl_12 (by decide) fl_X12_344 (v := .int (mI s20 l0 26)) rfl dX12_insert_225 ?_
          refine lv_iconst (v := (1 : Int32)) hx hb dX12_insert_228 (by decide) ?_
          have t21 := h.1
          replace h := h.2
          have v22 := h.1
          replace h := h.2
          refine x_iast C hW hS t21 v22 dX12_insert_229 (fun H locs hW hS => ?_)
          obtain ⟨s23, e_s23⟩ : ∃ z : Mem, z = (sI s20 (mR s20 l0 30) (mI s20 l0 26).toNatClampNeg (1 : Int32)) := ⟨_, rfl⟩
          replace h := h s23 e_s23
          replace hW : Wd G D tc b0 s23 H := by rw [e_s23]; exact hW
          refine lv_iconst (v := (0 : Int32)) hx hb dX12_insert_230 (by decide) ?_
          refine x_istore C hl dX12_insert_231 (by decide) rfl (fun ls hl => ?_)
          exact t_X12_insert_233 C hr hS hW (hl.keep [true, true, false, false, true] rfl) h
        · replace h := h.2 hc
          refine x_aload_n C hl dX12_insert_173 rfl ?_
          refine lv_iconst (v := (1 : Int32)) hx hb dX12_insert_174 (by decide) ?_
          refine x_iload_n C hl dX12_insert_175 rfl ?_
          refine y_i (x_run (As := [.int (1 : Int32), .int l1]) C hW hS (T_X12_ends l l0 (1 : Int32) l1 s6 _ h) t1 kl_12 (CW.of yv_X12_ends ml_X12_453) ⟨rfl, rfl, ⟨by decide, by decide⟩, by decide, by decide⟩ rfl hl.1 rfl (by decide) dX12_insert_176) hS (fun w25 s24 H locs h hW hS => ?_)
          exact r_z C hr hW hS h.1 h.2 dX12_insert_179
      · replace h := h.2 hc
        refine x_aload_n C hl dX12_insert_141 rfl ?_
        refine lv_iconst (v := (5 : Int32)) hx hb dX12_insert_142 (by decide) ?_
        refine x_iload_n C hl dX12_insert_143 rfl ?_
        refine y_i (x_run (As := [.int (5 : Int32), .int l1]) C hW hS (T_X12_ends l l0 (5 : Int32) l1 σ _ h) t1 kl_12 (CW.of yv_X12_ends ml_X12_453) ⟨rfl, rfl, ⟨by decide, by decide⟩, by decide, by decide⟩ rfl hl.1 rfl (by decide) dX12_insert_144) hS (fun w27 s26 H locs h hW hS => ?_)
        exact r_z C hr hW hS h.1 h.2 dX12_insert_147
    · replace h := h.2 hc
      refine x_iload_n C hl dX12_insert_105 rfl ?_
      refine x_aload_n C hl dX12_insert_106 rfl ?_
      refine x_get C hW (t := 12) (k := 27) t1 kl_12 (by decide) fl_X12_77 (v := rv b0 (mR σ l0 27)) rfl dX12_insert_107 ?_
      refine x_iload C hl dX12_insert_110 rfl ?_
      have t28 := h.1
      replace h := h.2
      have v29 := h.1
      replace h := h.2
      refine x_iald C hW t28 v29 dX12_insert_112 ?_
      refine x_aload_n C hl dX12_insert_113 rfl ?_
      refine x_get C hW (t := 12) (k := 43) t1 kl_12 (by decide) fl_X12_123 (v := rv b0 (mR σ l0 43)) rfl dX12_insert_114 ?_
      refine x_iload_n C hl dX12_insert_117 rfl ?_
      have t30 := h.1
      replace h := h.2
      have v31 := h.1
      replace h := h.2
      refine x_iald C hW t30 v31 dX12_insert_118 ?_
      refine lv_icmp_ne hx hb dX12_insert_119 (tgt := 126) rfl (fun hc => ?_) (fun hc => ?_)
      · replace h := h.2 hc
        refine lv_iconst (v := (0 : Int32)) hx hb dX12_insert_126 (by decide) ?_
        exact t_X12_insert_127 C hr hK96 hS hW (hl.keep [true, true, true, false, true] rfl) h
      · replace h := h.1 hc
        refine lv_iconst (v := (1 : Int32)) hx hb dX12_insert_122 (by decide) ?_
        refine lv_goto hx hb dX12_insert_123 (tgt := 127) rfl ?_
        exact t_X12_insert_127 C hr hK96 hS hW (hl.keep [true, true, true, false, true] rfl) h
set_option maxRecDepth 20000 in
set_option maxHeartbeats 4000000 in
theorem t_X12_insert_96 {p : Program} {l : Launch} {e : Env} {s : State} {m : MethodId} {args : Array Value} {below : List Frame} {meth : Method} {c : Code} {H : Heap} {locs : List Loc} {D : va_G} {tc : Nat → ClassId} {b0 : Nat} {ls : Array Slot} {G : Lay} {Qx : Int32 → Mem → Prop} {l0 : Nat} {l1 : Int32} {l2 : Int32} {l3 : Int32} {l4 : Int32}  {σ : Mem} (C : Cx p s m args meth c cX12_insert RX12 5 D tc b0) (hr : meth.sig.returnType = (some FieldType.boolean)) (hS : va_S (AA b0) s.heap H locs) (hW : Wd G D tc b0 σ H) (hl : hL b0 ls 5 [some (.inr (.inr l0)), some (.inl l1), some (.inl l2), some (.inl l3), some (.inl l4)]) (h : X_X12_insert_96 G Qx l0 l1 l2 l3 l4 σ) : W p l e rm_X12_insert s m args below meth c H locs 0 0 (MQ below (va_Qi Qx (fun u t => Pw G D tc b0 u t) (AA b0)) args s 0 0 (AA b0)) (F0 m 96 ls []) := by
  obtain ⟨n, h⟩ := h
  exact t_X12_insert_96_n C hr n l3 l4 σ H locs ls hS hW hl h
set_option maxRecDepth 20000 in
set_option maxHeartbeats 4000000 in
theorem t_X12_insert_9_n {p : Program} {l : Launch} {e : Env} {s : State} {m : MethodId} {args : Array Value} {below : List Frame} {meth : Method} {c : Code} {D : va_G} {tc : Nat → ClassId} {b0 : Nat} {G : Lay} {Qx : Int32 → Mem → Prop} {l0 : Nat} {l1 : Int32} {l2 : Int32} (C : Cx p s m args meth c cX12_insert RX12 5 D tc b0) (hr : meth.sig.returnType = (some FieldType.boolean)) (n : Nat) : ∀ (l3 : Int32) (σ : Mem) (H : Heap) (locs : List Loc) (ls : Array Slot), va_S (AA b0) s.heap H locs → Wd G D tc b0 σ H → hL b0 ls 5 [some (.inr (.inr l0)), some (.inl l1), some (.inl l2), some (.inl l3), none] → Lp (X_X12_insert_9_s G Qx l0 l1 l2) n (l3, σ) → W p l e rm_X12_insert s m args below meth c H locs 0 0 (MQ below (va_Qi Qx (fun u t => Pw G D tc b0 u t) (AA b0)) args s 0 0 (AA b0)) (F0 m 9 ls []) := by
  have hx := C.1
  have hb := C.2.1
  induction n with
  | zero => intro l3 σ H locs ls hS hW hl h; exact False.elim h
  | succ n hK9 =>
    intro l3 σ H locs ls hS hW hl h
    replace h : X_X12_insert_9_s G Qx l0 l1 l2 (Lp (X_X12_insert_9_s G Qx l0 l1 l2) n) (l3, σ) := h
    unfold X_X12_insert_9_s at h
    refine x_iload_n C hl dX12_insert_9 rfl ?_
    refine lv_bipush (v := (16 : Int32)) hx hb dX12_insert_10 (by decide) ?_
    refine lv_icmp_ge hx hb dX12_insert_12 (tgt := 91) rfl (fun hc => ?_) (fun hc => ?_)
    · replace h := h.1 hc
      refine lv_iconst (v := (0 : Int32)) hx hb dX12_insert_91 (by decide) ?_
      refine x_istore_n C hl dX12_insert_92 (by decide) rfl (fun ls hl => ?_)
      refine lv_iconst (v := (0 : Int32)) hx hb dX12_insert_93 (by decide) ?_
      refine x_istore C hl dX12_insert_94 (by decide) rfl (fun ls hl => ?_)
      exact t_X12_insert_96 C hr hS hW (hl.keep [true, true, true, true, true] rfl) h
    · replace h := h.2 hc
      refine x_aload_n C hl dX12_insert_15 rfl ?_
      have t1 := h.1
      replace h := h.2
      refine x_get C hW (t := 12) (k := 77) t1 kl_12 (by decide) fl_X12_187 (v := rv b0 (mR σ l0 77)) rfl dX12_insert_16 ?_
      refine lv_bipush (v := (16 : Int32)) hx hb dX12_insert_19 (by decide) ?_
      refine x_iload_n C hl dX12_insert_21 rfl ?_
      refine lv_imul hx hb dX12_insert_22 ?_
      refine x_iload_n C hl dX12_insert_23 rfl ?_
      refine lv_iadd hx hb dX12_insert_24 ?_
      refine x_iload_n C hl dX12_insert_25 rfl ?_
      refine x_aload_n C hl dX12_insert_26 rfl ?_
      refine x_get C hW (t := 12) (k := 6) t1 kl_12 (by decide) fl_X12_23 (v := rv b0 (mR σ l0 6)) rfl dX12_insert_27 ?_
      refine x_iload_n C hl dX12_insert_30 rfl ?_
      have t2 := h.1
      replace h := h.2
      have v3 := h.1
      replace h := h.2
      refine x_iald C hW t2 v3 dX12_insert_31 ?_
      refine lv_icmp_ge hx hb dX12_insert_32 (tgt := 48) rfl (fun hc => ?_) (fun hc => ?_)
      · replace h := h.1 hc
        exact t_X12_insert_48 C hr hK9 hS hW (hl.keep [true, true, true, true, false] rfl) h
      · replace h := h.2 hc
        refine x_aload_n C hl dX12_insert_35 rfl ?_
        refine x_iload_n C hl dX12_insert_36 rfl ?_
        refine x_iload_n C hl dX12_insert_37 rfl ?_
        refine y_i (x_run (As := [.int l1, .int l3]) C hW hS (T_X12_waitsFor l l0 l1 l3 σ _ h) t1 kl_12 (CW.of yv_X12_waitsFor ml_X12_443) ⟨rfl, rfl, ⟨by decide, by decide⟩, by decide, by decide⟩ rfl hl.1 rfl (by simp [rv_cat, cat_i, cat_l]) dX12_insert_38) hS (fun w5 s4 H locs h hW hS => ?_)
        refine lv_if_lt hx hb dX12_insert_41 (tgt := 48) rfl (fun hc => ?_) (fun hc => ?_)
        · replace h := h.1 hc
          exact t_X12_insert_48 C hr hK9 hS hW (hl.keep [true, true, true, true, false] rfl) h
        · replace h := h.2 hc
          refine lv_iconst (v := (1 : Int32)) hx hb dX12_insert_44 (by decide) ?_
          refine lv_goto hx hb dX12_insert_45 (tgt := 49) rfl ?_
          exact t_X12_insert_49 C hr hK9 hS hW (hl.keep [true, true, true, true, false] rfl) h
set_option maxRecDepth 20000 in
set_option maxHeartbeats 4000000 in
theorem t_X12_insert_9 {p : Program} {l : Launch} {e : Env} {s : State} {m : MethodId} {args : Array Value} {below : List Frame} {meth : Method} {c : Code} {H : Heap} {locs : List Loc} {D : va_G} {tc : Nat → ClassId} {b0 : Nat} {ls : Array Slot} {G : Lay} {Qx : Int32 → Mem → Prop} {l0 : Nat} {l1 : Int32} {l2 : Int32} {l3 : Int32}  {σ : Mem} (C : Cx p s m args meth c cX12_insert RX12 5 D tc b0) (hr : meth.sig.returnType = (some FieldType.boolean)) (hS : va_S (AA b0) s.heap H locs) (hW : Wd G D tc b0 σ H) (hl : hL b0 ls 5 [some (.inr (.inr l0)), some (.inl l1), some (.inl l2), some (.inl l3), none]) (h : X_X12_insert_9 G Qx l0 l1 l2 l3 σ) : W p l e rm_X12_insert s m args below meth c H locs 0 0 (MQ below (va_Qi Qx (fun u t => Pw G D tc b0 u t) (AA b0)) args s 0 0 (AA b0)) (F0 m 9 ls []) := by
  obtain ⟨n, h⟩ := h
  exact t_X12_insert_9_n C hr n l3 σ H locs ls hS hW hl h
set_option maxRecDepth 20000 in
set_option maxHeartbeats 4000000 in
theorem t_X12_insert_0 {p : Program} {l : Launch} {e : Env} {s : State} {m : MethodId} {args : Array Value} {below : List Frame} {meth : Method} {c : Code} {H : Heap} {locs : List Loc} {D : va_G} {tc : Nat → ClassId} {b0 : Nat} {ls : Array Slot} {G : Lay} {Qx : Int32 → Mem → Prop} {l0 : Nat} {l1 : Int32}  {σ : Mem} (C : Cx p s m args meth c cX12_insert RX12 5 D tc b0) (hr : meth.sig.returnType = (some FieldType.boolean)) (hS : va_S (AA b0) s.heap H locs) (hW : Wd G D tc b0 σ H) (hl : hL b0 ls 5 [some (.inr (.inr l0)), some (.inl l1), none, none, none]) (h : X_X12_insert_0 G Qx l0 l1  σ) : W p l e rm_X12_insert s m args below meth c H locs 0 0 (MQ below (va_Qi Qx (fun u t => Pw G D tc b0 u t) (AA b0)) args s 0 0 (AA b0)) (F0 m 0 ls []) := by
  have hx := C.1
  have hb := C.2.1
  unfold X_X12_insert_0 at h
  refine x_aload_n C hl dX12_insert_0 rfl ?_
  have t1 := h.1
  replace h := h.2
  refine x_get C hW (t := 12) (k := 45) t1 kl_12 (by decide) fl_X12_129 (v := rv b0 (mR σ l0 45)) rfl dX12_insert_1 ?_
  refine x_iload_n C hl dX12_insert_4 rfl ?_
  have t2 := h.1
  replace h := h.2
  have v3 := h.1
  replace h := h.2
  refine x_iald C hW t2 v3 dX12_insert_5 ?_
  refine x_istore_n C hl dX12_insert_6 (by decide) rfl (fun ls hl => ?_)
  refine lv_iconst (v := (0 : Int32)) hx hb dX12_insert_7 (by decide) ?_
  refine x_istore_n C hl dX12_insert_8 (by decide) rfl (fun ls hl => ?_)
  exact t_X12_insert_9 C hr hS hW (hl.keep [true, true, true, true, false] rfl) h
theorem T_X12_insert (l : Launch) {G : Lay} {D : va_G} {tc : Nat → ClassId} {b0 : Nat} (l0 : Nat) (l1 : Int32) (σ : Mem) (Qx : Int32 → Mem → Prop) (h : X_X12_insert G Qx l0 l1 σ) : MI l yX12_insert cX12_insert 5 ((some FieldType.boolean)) rm_X12_insert G D tc b0 [rv b0 l0, .int l1] σ Qx :=
  x_entry (y := yX12_insert) [.inr (.inr l0), .inl l1] 3 (by decide) (Nat.le_of_ble_eq_true rfl) (fun p e s m args below meth c ls C hr hW hl => t_X12_insert_0 C hr va_S.rf hW (hl.keep [true, true, false, false, false] rfl) h)
/-! X12_insertAll -/
set_option maxRecDepth 20000 in
set_option maxHeartbeats 4000000 in
theorem t_X12_insertAll_131 {p : Program} {l : Launch} {e : Env} {s : State} {m : MethodId} {args : Array Value} {below : List Frame} {meth : Method} {c : Code} {H : Heap} {locs : List Loc} {D : va_G} {tc : Nat → ClassId} {b0 : Nat} {ls : Array Slot} {G : Lay} {Qx : Int32 → Mem → Prop} {l0 : Nat} {l2 : Int32} {l3 : Int32} {l4 : Int32} {l5 : Int32}  {K57 : Int32 × Mem → Prop} {K66 : Int32 × Int32 × Mem → Prop} {K79 : Int32 × Int32 × Mem → Prop} {σ : Mem} (C : Cx p s m args meth c cX12_insertAll RX12 6 D tc b0) (hr : meth.sig.returnType = (some FieldType.boolean)) (hK57 : ∀ (x2 : Int32) (σ : Mem) (H : Heap) (locs : List Loc) (ls : Array Slot), va_S (AA b0) s.heap H locs → Wd G D tc b0 σ H → hL b0 ls 6 [some (.inr (.inr l0)), none, some (.inl x2), none, none, none] → K57 (x2, σ) → W p l e rm_X12_insertAll s m args below meth c H locs 0 0 (MQ below (va_Qi Qx (fun u t => Pw G D tc b0 u t) (AA b0)) args s 0 0 (AA b0)) (F0 m 57 ls [])) (hK66 : ∀ (x3 : Int32) (x4 : Int32) (σ : Mem) (H : Heap) (locs : List Loc) (ls : Array Slot), va_S (AA b0) s.heap H locs → Wd G D tc b0 σ H → hL b0 ls 6 [some (.inr (.inr l0)), none, some (.inl l2), some (.inl x3), some (.inl x4), none] → K66 (x3, x4, σ) → W p l e rm_X12_insertAll s m args below meth c H locs 0 0 (MQ below (va_Qi Qx (fun u t => Pw G D tc b0 u t) (AA b0)) args s 0 0 (AA b0)) (F0 m 66 ls [])) (hK79 : ∀ (x3 : Int32) (x5 : Int32) (σ : Mem) (H : Heap) (locs : List Loc) (ls : Array Slot), va_S (AA b0) s.heap H locs → Wd G D tc b0 σ H → hL b0 ls 6 [some (.inr (.inr l0)), none, some (.inl l2), some (.inl x3), some (.inl l4), some (.inl x5)] → K79 (x3, x5, σ) → W p l e rm_X12_insertAll s m args below meth c H locs 0 0 (MQ below (va_Qi Qx (fun u t => Pw G D tc b0 u t) (AA b0)) args s 0 0 (AA b0)) (F0 m 79 ls [])) (hS : va_S (AA b0) s.heap H locs) (hW : Wd G D tc b0 σ H) (hl : hL b0 ls 6 [some (.inr (.inr l0)), none, some (.inl l2), some (.inl l3), some (.inl l4), some (.inl l5)]) (h : X_X12_insertAll_131 G Qx K57 K66 K79 l0 l2 l3 l4 l5  σ) : W p l e rm_X12_insertAll s m args below meth c H locs 0 0 (MQ below (va_Qi Qx (fun u t => Pw G D tc b0 u t) (AA b0)) args s 0 0 (AA b0)) (F0 m 131 ls []) := by
  have hx := C.1
  have hb := C.2.1
  unfold X_X12_insertAll_131 at h
  refine x_iinc C hl dX12_insertAll_131 rfl (v := (1 : Int32)) (by decide) (by decide) rfl (fun ls hl => ?_)
  refine lv_goto hx hb dX12_insertAll_134 (tgt := 79) rfl ?_
  exact hK79 _ _ _ _ _ _ hS hW (hl.keep [true, false, true, true, true, true] rfl) h
set_option maxRecDepth 20000 in
set_option maxHeartbeats 4000000 in
theorem t_X12_insertAll_137 {p : Program} {l : Launch} {e : Env} {s : State} {m : MethodId} {args : Array Value} {below : List Frame} {meth : Method} {c : Code} {H : Heap} {locs : List Loc} {D : va_G} {tc : Nat → ClassId} {b0 : Nat} {ls : Array Slot} {G : Lay} {Qx : Int32 → Mem → Prop} {l0 : Nat} {l2 : Int32} {l3 : Int32} {l4 : Int32}  {K57 : Int32 × Mem → Prop} {K66 : Int32 × Int32 × Mem → Prop} {σ : Mem} (C : Cx p s m args meth c cX12_insertAll RX12 6 D tc b0) (hr : meth.sig.returnType = (some FieldType.boolean)) (hK57 : ∀ (x2 : Int32) (σ : Mem) (H : Heap) (locs : List Loc) (ls : Array Slot), va_S (AA b0) s.heap H locs → Wd G D tc b0 σ H → hL b0 ls 6 [some (.inr (.inr l0)), none, some (.inl x2), none, none, none] → K57 (x2, σ) → W p l e rm_X12_insertAll s m args below meth c H locs 0 0 (MQ below (va_Qi Qx (fun u t => Pw G D tc b0 u t) (AA b0)) args s 0 0 (AA b0)) (F0 m 57 ls [])) (hK66 : ∀ (x3 : Int32) (x4 : Int32) (σ : Mem) (H : Heap) (locs : List Loc) (ls : Array Slot), va_S (AA b0) s.heap H locs → Wd G D tc b0 σ H → hL b0 ls 6 [some (.inr (.inr l0)), none, some (.inl l2), some (.inl x3), some (.inl x4), none] → K66 (x3, x4, σ) → W p l e rm_X12_insertAll s m args below meth c H locs 0 0 (MQ below (va_Qi Qx (fun u t => Pw G D tc b0 u t) (AA b0)) args s 0 0 (AA b0)) (F0 m 66 ls [])) (hS : va_S (AA b0) s.heap H locs) (hW : Wd G D tc b0 σ H) (hl : hL b0 ls 6 [some (.inr (.inr l0)), none, some (.inl l2), some (.inl l3), some (.inl l4), none]) (h : X_X12_insertAll_137 G Qx K57 K66 l0 l2 l3 l4  σ) : W p l e rm_X12_insertAll s m args below meth c H locs 0 0 (MQ below (va_Qi Qx (fun u t => Pw G D tc b0 u t) (AA b0)) args s 0 0 (AA b0)) (F0 m 137 ls []) := by
  have hx := C.1
  have hb := C.2.1
  unfold X_X12_insertAll_137 at h
  refine x_iinc C hl dX12_insertAll_137 rfl (v := (1 : Int32)) (by decide) (by decide) rfl (fun ls hl => ?_)
  refine lv_goto hx hb dX12_insertAll_140 (tgt := 66) rfl ?_
  exact hK66 _ _ _ _ _ _ hS hW (hl.keep [true, false, true, true, true, false] rfl) h
set_option maxRecDepth 20000 in
set_option maxHeartbeats 4000000 in
theorem t_X12_insertAll_79_n {p : Program} {l : Launch} {e : Env} {s : State} {m : MethodId} {args : Array Value} {below : List Frame} {meth : Method} {c : Code} {D : va_G} {tc : Nat → ClassId} {b0 : Nat} {G : Lay} {Qx : Int32 → Mem → Prop} {l0 : Nat} {l2 : Int32} {l4 : Int32} {K57 : Int32 × Mem → Prop} {K66 : Int32 × Int32 × Mem → Prop} (C : Cx p s m args meth c cX12_insertAll RX12 6 D tc b0) (hr : meth.sig.returnType = (some FieldType.boolean)) (hK57 : ∀ (x2 : Int32) (σ : Mem) (H : Heap) (locs : List Loc) (ls : Array Slot), va_S (AA b0) s.heap H locs → Wd G D tc b0 σ H → hL b0 ls 6 [some (.inr (.inr l0)), none, some (.inl x2), none, none, none] → K57 (x2, σ) → W p l e rm_X12_insertAll s m args below meth c H locs 0 0 (MQ below (va_Qi Qx (fun u t => Pw G D tc b0 u t) (AA b0)) args s 0 0 (AA b0)) (F0 m 57 ls [])) (hK66 : ∀ (x3 : Int32) (x4 : Int32) (σ : Mem) (H : Heap) (locs : List Loc) (ls : Array Slot), va_S (AA b0) s.heap H locs → Wd G D tc b0 σ H → hL b0 ls 6 [some (.inr (.inr l0)), none, some (.inl l2), some (.inl x3), some (.inl x4), none] → K66 (x3, x4, σ) → W p l e rm_X12_insertAll s m args below meth c H locs 0 0 (MQ below (va_Qi Qx (fun u t => Pw G D tc b0 u t) (AA b0)) args s 0 0 (AA b0)) (F0 m 66 ls [])) (n : Nat) : ∀ (l3 : Int32) (l5 : Int32) (σ : Mem) (H : Heap) (locs : List Loc) (ls : Array Slot), va_S (AA b0) s.heap H locs → Wd G D tc b0 σ H → hL b0 ls 6 [some (.inr (.inr l0)), none, some (.inl l2), some (.inl l3), some (.inl l4), some (.inl l5)] → Lp (X_X12_insertAll_79_s G Qx K57 K66 l0 l2 l4) n (l3, l5, σ) → W p l e rm_X12_insertAll s m args below meth c H locs 0 0 (MQ below (va_Qi Qx (fun u t => Pw G D tc b0 u t) (AA b0)) args s 0 0 (AA b0)) (F0 m 79 ls []) := by
  have hx := C.1
  have hb := C.2.1
  induction n with
  | zero => intro l3 l5 σ H locs ls hS hW hl h; exact False.elim h
  | succ n hK79 =>
    intro l3 l5 σ H locs ls hS hW hl h
    replace h : X_X12_insertAll_79_s G Qx K57 K66 l0 l2 l4 (Lp (X_X12_insertAll_79_s G Qx K57 K66 l0 l2 l4) n) (l3, l5, σ) := h
    unfold X_X12_insertAll_79_s at h
    refine x_iload C hl dX12_insertAll_79 rfl ?_
    refine x_aload_n C hl dX12_insertAll_81 rfl ?_
    have t1 := h.1
    replace h := h.2
    refine x_get C hW (t := 12) (k := 75) t1 kl_12 (by decide) fl_X12_440 (v := .int (mI σ l0 75)) rfl dX12_insertAll_82 ?_
    refine lv_icmp_ge hx hb dX12_insertAll_85 (tgt := 137) rfl (fun hc => ?_) (fun hc => ?_)
    · replace h := h.1 hc
      exact t_X12_insertAll_137 C hr hK57 hK66 hS hW (hl.keep [true, false, true, true, true, false] rfl) h
    · replace h := h.2 hc
      refine x_iload_n C hl dX12_insertAll_88 rfl ?_
      refine lv_if_ge hx hb dX12_insertAll_89 (tgt := 137) rfl (fun hc => ?_) (fun hc => ?_)
      · replace h := h.1 hc
        exact t_X12_insertAll_137 C hr hK57 hK66 hS hW (hl.keep [true, false, true, true, true, false] rfl) h
      · replace h := h.2 hc
        refine x_aload_n C hl dX12_insertAll_92 rfl ?_
        refine x_get C hW (t := 12) (k := 76) t1 kl_12 (by decide) fl_X12_184 (v := rv b0 (mR σ l0 76)) rfl dX12_insertAll_93 ?_
        refine x_aload_n C hl dX12_insertAll_96 rfl ?_
        refine x_get C hW (t := 12) (k := 74) t1 kl_12 (by decide) fl_X12_181 (v := rv b0 (mR σ l0 74)) rfl dX12_insertAll_97 ?_
        refine x_iload C hl dX12_insertAll_100 rfl ?_
        have t2 := h.1
        replace h := h.2
        have v3 := h.1
        replace h := h.2
        refine x_iald C hW t2 v3 dX12_insertAll_102 ?_
        have t4 := h.1
        replace h := h.2
        have v5 := h.1
        replace h := h.2
        refine x_zald C hW t4 v5 dX12_insertAll_103 ?_
        refine lv_if_ne hx hb dX12_insertAll_104 (tgt := 131) rfl (fun hc => ?_) (fun hc => ?_)
        · replace h := h.2 hc
          exact t_X12_insertAll_131 C hr hK57 hK66 hK79 hS hW (hl.keep [true, false, true, true, true, true] rfl) h
        · replace h := h.1 hc
          refine x_aload_n C hl dX12_insertAll_107 rfl ?_
          refine x_aload_n C hl dX12_insertAll_108 rfl ?_
          refine x_get C hW (t := 12) (k := 74) t1 kl_12 (by decide) fl_X12_181 (v := rv b0 (mR σ l0 74)) rfl dX12_insertAll_109 ?_
          refine x_iload C hl dX12_insertAll_112 rfl ?_
          refine x_iald C hW t2 v3 dX12_insertAll_114 ?_
          refine y_i (x_run (As := [.int (mI σ (mR σ l0 74) l5.toNatClampNeg)]) C hW hS (T_X12_waitsHow l l0 (mI σ (mR σ l0 74) l5.toNatClampNeg) σ _ h) t1 kl_12 (CW.of yv_X12_waitsHow ml_X12_450) ⟨rfl, rfl, ⟨by decide, by decide⟩, by decide, by decide⟩ rfl hl.1 rfl (by decide) dX12_insertAll_115) hS (fun w7 s6 H locs h hW hS => ?_)
          refine x_iload C hl dX12_insertAll_118 rfl ?_
          refine lv_icmp_gt hx hb dX12_insertAll_120 (tgt := 131) rfl (fun hc => ?_) (fun hc => ?_)
          · replace h := h.1 hc
            exact t_X12_insertAll_131 C hr hK57 hK66 hK79 hS hW (hl.keep [true, false, true, true, true, true] rfl) h
          · replace h := h.2 hc
            refine x_aload_n C hl dX12_insertAll_123 rfl ?_
            refine x_get C hW (t := 12) (k := 74) t1 kl_12 (by decide) fl_X12_181 (v := rv b0 (mR s6 l0 74)) rfl dX12_insertAll_124 ?_
            refine x_iload C hl dX12_insertAll_127 rfl ?_
            have t8 := h.1
            replace h := h.2
            have v9 := h.1
            replace h := h.2
            refine x_iald C hW t8 v9 dX12_insertAll_129 ?_
            refine x_istore_n C hl dX12_insertAll_130 (by decide) rfl (fun ls hl => ?_)
            exact t_X12_insertAll_131 C hr hK57 hK66 hK79 hS hW (hl.keep [true, false, true, true, true, true] rfl) h
set_option maxRecDepth 20000 in
set_option maxHeartbeats 4000000 in
theorem t_X12_insertAll_79 {p : Program} {l : Launch} {e : Env} {s : State} {m : MethodId} {args : Array Value} {below : List Frame} {meth : Method} {c : Code} {H : Heap} {locs : List Loc} {D : va_G} {tc : Nat → ClassId} {b0 : Nat} {ls : Array Slot} {G : Lay} {Qx : Int32 → Mem → Prop} {l0 : Nat} {l2 : Int32} {l3 : Int32} {l4 : Int32} {l5 : Int32}  {K57 : Int32 × Mem → Prop} {K66 : Int32 × Int32 × Mem → Prop} {σ : Mem} (C : Cx p s m args meth c cX12_insertAll RX12 6 D tc b0) (hr : meth.sig.returnType = (some FieldType.boolean)) (hK57 : ∀ (x2 : Int32) (σ : Mem) (H : Heap) (locs : List Loc) (ls : Array Slot), va_S (AA b0) s.heap H locs → Wd G D tc b0 σ H → hL b0 ls 6 [some (.inr (.inr l0)), none, some (.inl x2), none, none, none] → K57 (x2, σ) → W p l e rm_X12_insertAll s m args below meth c H locs 0 0 (MQ below (va_Qi Qx (fun u t => Pw G D tc b0 u t) (AA b0)) args s 0 0 (AA b0)) (F0 m 57 ls [])) (hK66 : ∀ (x3 : Int32) (x4 : Int32) (σ : Mem) (H : Heap) (locs : List Loc) (ls : Array Slot), va_S (AA b0) s.heap H locs → Wd G D tc b0 σ H → hL b0 ls 6 [some (.inr (.inr l0)), none, some (.inl l2), some (.inl x3), some (.inl x4), none] → K66 (x3, x4, σ) → W p l e rm_X12_insertAll s m args below meth c H locs 0 0 (MQ below (va_Qi Qx (fun u t => Pw G D tc b0 u t) (AA b0)) args s 0 0 (AA b0)) (F0 m 66 ls [])) (hS : va_S (AA b0) s.heap H locs) (hW : Wd G D tc b0 σ H) (hl : hL b0 ls 6 [some (.inr (.inr l0)), none, some (.inl l2), some (.inl l3), some (.inl l4), some (.inl l5)]) (h : X_X12_insertAll_79 G Qx K57 K66 l0 l2 l3 l4 l5 σ) : W p l e rm_X12_insertAll s m args below meth c H locs 0 0 (MQ below (va_Qi Qx (fun u t => Pw G D tc b0 u t) (AA b0)) args s 0 0 (AA b0)) (F0 m 79 ls []) := by
  obtain ⟨n, h⟩ := h
  exact t_X12_insertAll_79_n C hr hK57 hK66 n l3 l5 σ H locs ls hS hW hl h
set_option maxRecDepth 20000 in
set_option maxHeartbeats 4000000 in
theorem t_X12_insertAll_186 {p : Program} {l : Launch} {e : Env} {s : State} {m : MethodId} {args : Array Value} {below : List Frame} {meth : Method} {c : Code} {H : Heap} {locs : List Loc} {D : va_G} {tc : Nat → ClassId} {b0 : Nat} {ls : Array Slot} {G : Lay} {Qx : Int32 → Mem → Prop} {l0 : Nat} {l4 : Int32} {k0 : Int32} {K155 : Int32 × Int32 × Mem → Prop} {σ : Mem} (C : Cx p s m args meth c cX12_insertAll RX12 6 D tc b0) (hr : meth.sig.returnType = (some FieldType.boolean)) (hK155 : ∀ (x3 : Int32) (x4 : Int32) (σ : Mem) (H : Heap) (locs : List Loc) (ls : Array Slot), va_S (AA b0) s.heap H locs → Wd G D tc b0 σ H → hL b0 ls 6 [some (.inr (.inr l0)), none, none, some (.inl x3), some (.inl x4), none] → K155 (x3, x4, σ) → W p l e rm_X12_insertAll s m args below meth c H locs 0 0 (MQ below (va_Qi Qx (fun u t => Pw G D tc b0 u t) (AA b0)) args s 0 0 (AA b0)) (F0 m 155 ls [])) (hS : va_S (AA b0) s.heap H locs) (hW : Wd G D tc b0 σ H) (hl : hL b0 ls 6 [some (.inr (.inr l0)), none, none, none, some (.inl l4), none]) (h : X_X12_insertAll_186 G Qx K155 l0 l4 k0 σ) : W p l e rm_X12_insertAll s m args below meth c H locs 0 0 (MQ below (va_Qi Qx (fun u t => Pw G D tc b0 u t) (AA b0)) args s 0 0 (AA b0)) (F0 m 186 ls [.int k0]) := by
  have hx := C.1
  have hb := C.2.1
  unfold X_X12_insertAll_186 at h
  refine x_istore_n C hl dX12_insertAll_186 (by decide) rfl (fun ls hl => ?_)
  refine x_iinc C hl dX12_insertAll_187 rfl (v := (-1 : Int32)) (by decide) (by decide) rfl (fun ls hl => ?_)
  refine lv_goto hx hb dX12_insertAll_190 (tgt := 155) rfl ?_
  exact hK155 _ _ _ _ _ _ hS hW (hl.keep [true, false, false, true, true, false] rfl) h
set_option maxRecDepth 20000 in
set_option maxHeartbeats 4000000 in
theorem t_X12_insertAll_155_n {p : Program} {l : Launch} {e : Env} {s : State} {m : MethodId} {args : Array Value} {below : List Frame} {meth : Method} {c : Code} {D : va_G} {tc : Nat → ClassId} {b0 : Nat} {G : Lay} {Qx : Int32 → Mem → Prop} {l0 : Nat} (C : Cx p s m args meth c cX12_insertAll RX12 6 D tc b0) (hr : meth.sig.returnType = (some FieldType.boolean)) (n : Nat) : ∀ (l3 : Int32) (l4 : Int32) (σ : Mem) (H : Heap) (locs : List Loc) (ls : Array Slot), va_S (AA b0) s.heap H locs → Wd G D tc b0 σ H → hL b0 ls 6 [some (.inr (.inr l0)), none, none, some (.inl l3), some (.inl l4), none] → Lp (X_X12_insertAll_155_s G Qx l0) n (l3, l4, σ) → W p l e rm_X12_insertAll s m args below meth c H locs 0 0 (MQ below (va_Qi Qx (fun u t => Pw G D tc b0 u t) (AA b0)) args s 0 0 (AA b0)) (F0 m 155 ls []) := by
  have hx := C.1
  have hb := C.2.1
  induction n with
  | zero => intro l3 l4 σ H locs ls hS hW hl h; exact False.elim h
  | succ n hK155 =>
    intro l3 l4 σ H locs ls hS hW hl h
    replace h : X_X12_insertAll_155_s G Qx l0 (Lp (X_X12_insertAll_155_s G Qx l0) n) (l3, l4, σ) := h
    unfold X_X12_insertAll_155_s at h
    refine x_iload C hl dX12_insertAll_155 rfl ?_
    refine lv_if_lt hx hb dX12_insertAll_157 (tgt := 193) rfl (fun hc => ?_) (fun hc => ?_)
    · replace h := h.1 hc
      refine x_aload_n C hl dX12_insertAll_193 rfl ?_
      refine lv_iconst (v := (4 : Int32)) hx hb dX12_insertAll_194 (by decide) ?_
      refine x_iload_n C hl dX12_insertAll_195 rfl ?_
      have t1 := h.1
      replace h := h.2
      refine y_i (x_run (As := [.int (4 : Int32), .int l3]) C hW hS (T_X12_ends l l0 (4 : Int32) l3 σ _ h) t1 kl_12 (CW.of yv_X12_ends ml_X12_453) ⟨rfl, rfl, ⟨by decide, by decide⟩, by decide, by decide⟩ rfl hl.1 rfl (by decide) dX12_insertAll_196) hS (fun w3 s2 H locs h hW hS => ?_)
      exact r_z C hr hW hS h.1 h.2 dX12_insertAll_199
    · replace h := h.2 hc
      refine x_aload_n C hl dX12_insertAll_160 rfl ?_
      have t4 := h.1
      replace h := h.2
      refine x_get C hW (t := 12) (k := 76) t4 kl_12 (by decide) fl_X12_184 (v := rv b0 (mR σ l0 76)) rfl dX12_insertAll_161 ?_
      refine x_aload_n C hl dX12_insertAll_164 rfl ?_
      refine x_get C hW (t := 12) (k := 74) t4 kl_12 (by decide) fl_X12_181 (v := rv b0 (mR σ l0 74)) rfl dX12_insertAll_165 ?_
      refine x_iload C hl dX12_insertAll_168 rfl ?_
      have t5 := h.1
      replace h := h.2
      have v6 := h.1
      replace h := h.2
      refine x_iald C hW t5 v6 dX12_insertAll_170 ?_
      have t7 := h.1
      replace h := h.2
      have v8 := h.1
      replace h := h.2
      refine x_zald C hW t7 v8 dX12_insertAll_171 ?_
      refine lv_if_eq hx hb dX12_insertAll_172 (tgt := 179) rfl (fun hc => ?_) (fun hc => ?_)
      · replace h := h.1 hc
        refine x_aload_n C hl dX12_insertAll_179 rfl ?_
        refine x_get C hW (t := 12) (k := 74) t4 kl_12 (by decide) fl_X12_181 (v := rv b0 (mR σ l0 74)) rfl dX12_insertAll_180 ?_
        refine x_iload C hl dX12_insertAll_183 rfl ?_
        refine x_iald C hW t5 v6 dX12_insertAll_185 ?_
        exact t_X12_insertAll_186 C hr hK155 hS hW (hl.keep [true, false, false, false, true, false] rfl) h
      · replace h := h.2 hc
        refine x_iload_n C hl dX12_insertAll_175 rfl ?_
        refine lv_goto hx hb dX12_insertAll_176 (tgt := 186) rfl ?_
        exact t_X12_insertAll_186 C hr hK155 hS hW (hl.keep [true, false, false, false, true, false] rfl) h
set_option maxRecDepth 20000 in
set_option maxHeartbeats 4000000 in
theorem t_X12_insertAll_155 {p : Program} {l : Launch} {e : Env} {s : State} {m : MethodId} {args : Array Value} {below : List Frame} {meth : Method} {c : Code} {H : Heap} {locs : List Loc} {D : va_G} {tc : Nat → ClassId} {b0 : Nat} {ls : Array Slot} {G : Lay} {Qx : Int32 → Mem → Prop} {l0 : Nat} {l3 : Int32} {l4 : Int32}  {σ : Mem} (C : Cx p s m args meth c cX12_insertAll RX12 6 D tc b0) (hr : meth.sig.returnType = (some FieldType.boolean)) (hS : va_S (AA b0) s.heap H locs) (hW : Wd G D tc b0 σ H) (hl : hL b0 ls 6 [some (.inr (.inr l0)), none, none, some (.inl l3), some (.inl l4), none]) (h : X_X12_insertAll_155 G Qx l0 l3 l4 σ) : W p l e rm_X12_insertAll s m args below meth c H locs 0 0 (MQ below (va_Qi Qx (fun u t => Pw G D tc b0 u t) (AA b0)) args s 0 0 (AA b0)) (F0 m 155 ls []) := by
  obtain ⟨n, h⟩ := h
  exact t_X12_insertAll_155_n C hr n l3 l4 σ H locs ls hS hW hl h
set_option maxRecDepth 20000 in
set_option maxHeartbeats 4000000 in
theorem t_X12_insertAll_143 {p : Program} {l : Launch} {e : Env} {s : State} {m : MethodId} {args : Array Value} {below : List Frame} {meth : Method} {c : Code} {H : Heap} {locs : List Loc} {D : va_G} {tc : Nat → ClassId} {b0 : Nat} {ls : Array Slot} {G : Lay} {Qx : Int32 → Mem → Prop} {l0 : Nat} {l2 : Int32} {l3 : Int32}  {K57 : Int32 × Mem → Prop} {σ : Mem} (C : Cx p s m args meth c cX12_insertAll RX12 6 D tc b0) (hr : meth.sig.returnType = (some FieldType.boolean)) (hK57 : ∀ (x2 : Int32) (σ : Mem) (H : Heap) (locs : List Loc) (ls : Array Slot), va_S (AA b0) s.heap H locs → Wd G D tc b0 σ H → hL b0 ls 6 [some (.inr (.inr l0)), none, some (.inl x2), none, none, none] → K57 (x2, σ) → W p l e rm_X12_insertAll s m args below meth c H locs 0 0 (MQ below (va_Qi Qx (fun u t => Pw G D tc b0 u t) (AA b0)) args s 0 0 (AA b0)) (F0 m 57 ls [])) (hS : va_S (AA b0) s.heap H locs) (hW : Wd G D tc b0 σ H) (hl : hL b0 ls 6 [some (.inr (.inr l0)), none, some (.inl l2), some (.inl l3), none, none]) (h : X_X12_insertAll_143 G Qx K57 l0 l2 l3  σ) : W p l e rm_X12_insertAll s m args below meth c H locs 0 0 (MQ below (va_Qi Qx (fun u t => Pw G D tc b0 u t) (AA b0)) args s 0 0 (AA b0)) (F0 m 143 ls []) := by
  have hx := C.1
  have hb := C.2.1
  unfold X_X12_insertAll_143 at h
  refine x_iload_n C hl dX12_insertAll_143 rfl ?_
  refine lv_if_ge hx hb dX12_insertAll_144 (tgt := 200) rfl (fun hc => ?_) (fun hc => ?_)
  · replace h := h.1 hc
    refine x_aload_n C hl dX12_insertAll_200 rfl ?_
    refine x_iload_n C hl dX12_insertAll_201 rfl ?_
    have t1 := h.1
    replace h := h.2
    refine y_i (x_run (As := [.int l3]) C hW hS (T_X12_insert l l0 l3 σ _ h) t1 kl_12 (CW.of yv_X12_insert ml_X12_456) ⟨rfl, rfl, ⟨by decide, by decide⟩, by decide, by decide⟩ rfl hl.1 rfl (by decide) dX12_insertAll_202) hS (fun w3 s2 H locs h hW hS => ?_)
    refine lv_if_ne hx hb dX12_insertAll_205 (tgt := 210) rfl (fun hc => ?_) (fun hc => ?_)
    · replace h := h.2 hc
      refine x_iinc C hl dX12_insertAll_210 rfl (v := (-1 : Int32)) (by decide) (by decide) rfl (fun ls hl => ?_)
      refine lv_goto hx hb dX12_insertAll_213 (tgt := 57) rfl ?_
      exact hK57 _ _ _ _ _ hS hW (hl.keep [true, false, true, false, false, false] rfl) h
    · replace h := h.1 hc
      refine lv_iconst (v := (0 : Int32)) hx hb dX12_insertAll_208 (by decide) ?_
      exact r_z C hr hW hS h.1 h.2 dX12_insertAll_209
  · replace h := h.2 hc
    refine x_aload_n C hl dX12_insertAll_147 rfl ?_
    have t4 := h.1
    replace h := h.2
    refine x_get C hW (t := 12) (k := 75) t4 kl_12 (by decide) fl_X12_440 (v := .int (mI σ l0 75)) rfl dX12_insertAll_148 ?_
    refine lv_iconst (v := (1 : Int32)) hx hb dX12_insertAll_151 (by decide) ?_
    refine lv_isub hx hb dX12_insertAll_152 ?_
    refine x_istore C hl dX12_insertAll_153 (by decide) rfl (fun ls hl => ?_)
    exact t_X12_insertAll_155 C hr hS hW (hl.keep [true, false, false, true, true, false] rfl) h
set_option maxRecDepth 20000 in
set_option maxHeartbeats 4000000 in
theorem t_X12_insertAll_66_n {p : Program} {l : Launch} {e : Env} {s : State} {m : MethodId} {args : Array Value} {below : List Frame} {meth : Method} {c : Code} {D : va_G} {tc : Nat → ClassId} {b0 : Nat} {G : Lay} {Qx : Int32 → Mem → Prop} {l0 : Nat} {l2 : Int32} {K57 : Int32 × Mem → Prop} (C : Cx p s m args meth c cX12_insertAll RX12 6 D tc b0) (hr : meth.sig.returnType = (some FieldType.boolean)) (hK57 : ∀ (x2 : Int32) (σ : Mem) (H : Heap) (locs : List Loc) (ls : Array Slot), va_S (AA b0) s.heap H locs → Wd G D tc b0 σ H → hL b0 ls 6 [some (.inr (.inr l0)), none, some (.inl x2), none, none, none] → K57 (x2, σ) → W p l e rm_X12_insertAll s m args below meth c H locs 0 0 (MQ below (va_Qi Qx (fun u t => Pw G D tc b0 u t) (AA b0)) args s 0 0 (AA b0)) (F0 m 57 ls [])) (n : Nat) : ∀ (l3 : Int32) (l4 : Int32) (σ : Mem) (H : Heap) (locs : List Loc) (ls : Array Slot), va_S (AA b0) s.heap H locs → Wd G D tc b0 σ H → hL b0 ls 6 [some (.inr (.inr l0)), none, some (.inl l2), some (.inl l3), some (.inl l4), none] → Lp (X_X12_insertAll_66_s G Qx K57 l0 l2) n (l3, l4, σ) → W p l e rm_X12_insertAll s m args below meth c H locs 0 0 (MQ below (va_Qi Qx (fun u t => Pw G D tc b0 u t) (AA b0)) args s 0 0 (AA b0)) (F0 m 66 ls []) := by
  have hx := C.1
  have hb := C.2.1
  induction n with
  | zero => intro l3 l4 σ H locs ls hS hW hl h; exact False.elim h
  | succ n hK66 =>
    intro l3 l4 σ H locs ls hS hW hl h
    replace h : X_X12_insertAll_66_s G Qx K57 l0 l2 (Lp (X_X12_insertAll_66_s G Qx K57 l0 l2) n) (l3, l4, σ) := h
    unfold X_X12_insertAll_66_s at h
    refine x_iload C hl dX12_insertAll_66 rfl ?_
    refine lv_iconst (v := (2 : Int32)) hx hb dX12_insertAll_68 (by decide) ?_
    refine lv_icmp_ge hx hb dX12_insertAll_69 (tgt := 143) rfl (fun hc => ?_) (fun hc => ?_)
    · replace h := h.1 hc
      exact t_X12_insertAll_143 C hr hK57 hS hW (hl.keep [true, false, true, true, false, false] rfl) h
    · replace h := h.2 hc
      refine x_iload_n C hl dX12_insertAll_72 rfl ?_
      refine lv_if_ge hx hb dX12_insertAll_73 (tgt := 143) rfl (fun hc => ?_) (fun hc => ?_)
      · replace h := h.1 hc
        exact t_X12_insertAll_143 C hr hK57 hS hW (hl.keep [true, false, true, true, false, false] rfl) h
      · replace h := h.2 hc
        refine lv_iconst (v := (0 : Int32)) hx hb dX12_insertAll_76 (by decide) ?_
        refine x_istore C hl dX12_insertAll_77 (by decide) rfl (fun ls hl => ?_)
        exact t_X12_insertAll_79 C hr hK57 hK66 hS hW (hl.keep [true, false, true, true, true, true] rfl) h
set_option maxRecDepth 20000 in
set_option maxHeartbeats 4000000 in
theorem t_X12_insertAll_66 {p : Program} {l : Launch} {e : Env} {s : State} {m : MethodId} {args : Array Value} {below : List Frame} {meth : Method} {c : Code} {H : Heap} {locs : List Loc} {D : va_G} {tc : Nat → ClassId} {b0 : Nat} {ls : Array Slot} {G : Lay} {Qx : Int32 → Mem → Prop} {l0 : Nat} {l2 : Int32} {l3 : Int32} {l4 : Int32}  {K57 : Int32 × Mem → Prop} {σ : Mem} (C : Cx p s m args meth c cX12_insertAll RX12 6 D tc b0) (hr : meth.sig.returnType = (some FieldType.boolean)) (hK57 : ∀ (x2 : Int32) (σ : Mem) (H : Heap) (locs : List Loc) (ls : Array Slot), va_S (AA b0) s.heap H locs → Wd G D tc b0 σ H → hL b0 ls 6 [some (.inr (.inr l0)), none, some (.inl x2), none, none, none] → K57 (x2, σ) → W p l e rm_X12_insertAll s m args below meth c H locs 0 0 (MQ below (va_Qi Qx (fun u t => Pw G D tc b0 u t) (AA b0)) args s 0 0 (AA b0)) (F0 m 57 ls [])) (hS : va_S (AA b0) s.heap H locs) (hW : Wd G D tc b0 σ H) (hl : hL b0 ls 6 [some (.inr (.inr l0)), none, some (.inl l2), some (.inl l3), some (.inl l4), none]) (h : X_X12_insertAll_66 G Qx K57 l0 l2 l3 l4 σ) : W p l e rm_X12_insertAll s m args below meth c H locs 0 0 (MQ below (va_Qi Qx (fun u t => Pw G D tc b0 u t) (AA b0)) args s 0 0 (AA b0)) (F0 m 66 ls []) := by
  obtain ⟨n, h⟩ := h
  exact t_X12_insertAll_66_n C hr hK57 n l3 l4 σ H locs ls hS hW hl h
set_option maxRecDepth 20000 in
set_option maxHeartbeats 4000000 in
theorem t_X12_insertAll_57_n {p : Program} {l : Launch} {e : Env} {s : State} {m : MethodId} {args : Array Value} {below : List Frame} {meth : Method} {c : Code} {D : va_G} {tc : Nat → ClassId} {b0 : Nat} {G : Lay} {Qx : Int32 → Mem → Prop} {l0 : Nat} (C : Cx p s m args meth c cX12_insertAll RX12 6 D tc b0) (hr : meth.sig.returnType = (some FieldType.boolean)) (n : Nat) : ∀ (l2 : Int32) (σ : Mem) (H : Heap) (locs : List Loc) (ls : Array Slot), va_S (AA b0) s.heap H locs → Wd G D tc b0 σ H → hL b0 ls 6 [some (.inr (.inr l0)), none, some (.inl l2), none, none, none] → Lp (X_X12_insertAll_57_s G Qx l0) n (l2, σ) → W p l e rm_X12_insertAll s m args below meth c H locs 0 0 (MQ below (va_Qi Qx (fun u t => Pw G D tc b0 u t) (AA b0)) args s 0 0 (AA b0)) (F0 m 57 ls []) := by
  have hx := C.1
  have hb := C.2.1
  induction n with
  | zero => intro l2 σ H locs ls hS hW hl h; exact False.elim h
  | succ n hK57 =>
    intro l2 σ H locs ls hS hW hl h
    replace h : X_X12_insertAll_57_s G Qx l0 (Lp (X_X12_insertAll_57_s G Qx l0) n) (l2, σ) := h
    unfold X_X12_insertAll_57_s at h
    refine x_iload_n C hl dX12_insertAll_57 rfl ?_
    refine lv_if_le hx hb dX12_insertAll_58 (tgt := 216) rfl (fun hc => ?_) (fun hc => ?_)
    · replace h := h.1 hc
      refine lv_iconst (v := (1 : Int32)) hx hb dX12_insertAll_216 (by decide) ?_
      exact r_z C hr hW hS h.1 h.2 dX12_insertAll_217
    · replace h := h.2 hc
      refine lv_iconst (v := (-1 : Int32)) hx hb dX12_insertAll_61 (by decide) ?_
      refine x_istore_n C hl dX12_insertAll_62 (by decide) rfl (fun ls hl => ?_)
      refine lv_iconst (v := (0 : Int32)) hx hb dX12_insertAll_63 (by decide) ?_
      refine x_istore C hl dX12_insertAll_64 (by decide) rfl (fun ls hl => ?_)
      exact t_X12_insertAll_66 C hr hK57 hS hW (hl.keep [true, false, true, true, true, false] rfl) h
set_option maxRecDepth 20000 in
set_option maxHeartbeats 4000000 in
theorem t_X12_insertAll_57 {p : Program} {l : Launch} {e : Env} {s : State} {m : MethodId} {args : Array Value} {below : List Frame} {meth : Method} {c : Code} {H : Heap} {locs : List Loc} {D : va_G} {tc : Nat → ClassId} {b0 : Nat} {ls : Array Slot} {G : Lay} {Qx : Int32 → Mem → Prop} {l0 : Nat} {l2 : Int32}  {σ : Mem} (C : Cx p s m args meth c cX12_insertAll RX12 6 D tc b0) (hr : meth.sig.returnType = (some FieldType.boolean)) (hS : va_S (AA b0) s.heap H locs) (hW : Wd G D tc b0 σ H) (hl : hL b0 ls 6 [some (.inr (.inr l0)), none, some (.inl l2), none, none, none]) (h : X_X12_insertAll_57 G Qx l0 l2 σ) : W p l e rm_X12_insertAll s m args below meth c H locs 0 0 (MQ below (va_Qi Qx (fun u t => Pw G D tc b0 u t) (AA b0)) args s 0 0 (AA b0)) (F0 m 57 ls []) := by
  obtain ⟨n, h⟩ := h
  exact t_X12_insertAll_57_n C hr n l2 σ H locs ls hS hW hl h
set_option maxRecDepth 20000 in
set_option maxHeartbeats 4000000 in
theorem t_X12_insertAll_32_n {p : Program} {l : Launch} {e : Env} {s : State} {m : MethodId} {args : Array Value} {below : List Frame} {meth : Method} {c : Code} {D : va_G} {tc : Nat → ClassId} {b0 : Nat} {G : Lay} {Qx : Int32 → Mem → Prop} {l0 : Nat} (C : Cx p s m args meth c cX12_insertAll RX12 6 D tc b0) (hr : meth.sig.returnType = (some FieldType.boolean)) (n : Nat) : ∀ (l2 : Int32) (σ : Mem) (H : Heap) (locs : List Loc) (ls : Array Slot), va_S (AA b0) s.heap H locs → Wd G D tc b0 σ H → hL b0 ls 6 [some (.inr (.inr l0)), none, some (.inl l2), none, none, none] → Lp (X_X12_insertAll_32_s G Qx l0) n (l2, σ) → W p l e rm_X12_insertAll s m args below meth c H locs 0 0 (MQ below (va_Qi Qx (fun u t => Pw G D tc b0 u t) (AA b0)) args s 0 0 (AA b0)) (F0 m 32 ls []) := by
  have hx := C.1
  have hb := C.2.1
  induction n with
  | zero => intro l2 σ H locs ls hS hW hl h; exact False.elim h
  | succ n hK32 =>
    intro l2 σ H locs ls hS hW hl h
    replace h : X_X12_insertAll_32_s G Qx l0 (Lp (X_X12_insertAll_32_s G Qx l0) n) (l2, σ) := h
    unfold X_X12_insertAll_32_s at h
    refine x_iload_n C hl dX12_insertAll_32 rfl ?_
    refine lv_sipush (v := (3840 : Int32)) hx hb dX12_insertAll_33 (by decide) ?_
    refine lv_icmp_ge hx hb dX12_insertAll_36 (tgt := 52) rfl (fun hc => ?_) (fun hc => ?_)
    · replace h := h.1 hc
      refine x_aload_n C hl dX12_insertAll_52 rfl ?_
      have t1 := h.1
      replace h := h.2
      refine x_get C hW (t := 12) (k := 75) t1 kl_12 (by decide) fl_X12_440 (v := .int (mI σ l0 75)) rfl dX12_insertAll_53 ?_
      refine x_istore_n C hl dX12_insertAll_56 (by decide) rfl (fun ls hl => ?_)
      exact t_X12_insertAll_57 C hr hS hW (hl.keep [true, false, true, false, false, false] rfl) h
    · replace h := h.2 hc
      refine x_aload_n C hl dX12_insertAll_39 rfl ?_
      have t2 := h.1
      replace h := h.2
      refine x_get C hW (t := 12) (k := 77) t2 kl_12 (by decide) fl_X12_187 (v := rv b0 (mR σ l0 77)) rfl dX12_insertAll_40 ?_
      refine x_iload_n C hl dX12_insertAll_43 rfl ?_
      refine lv_iconst (v := (0 : Int32)) hx hb dX12_insertAll_44 (by decide) ?_
      have t3 := h.1
      replace h := h.2
      have v4 := h.1
      replace h := h.2
      refine x_zast C hW hS t3 v4 dX12_insertAll_45 (fun H locs hW hS => ?_)
      obtain ⟨s5, e_s5⟩ : ∃ z : Mem, z = (sI σ (mR σ l0 77) l2.toNatClampNeg (vp_nar .boolean (0 : Int32))) := ⟨_, rfl⟩
      replace h := h s5 e_s5
      replace hW : Wd G D tc b0 s5 H := by rw [e_s5]; exact hW
      refine x_iinc C hl dX12_insertAll_46 rfl (v := (1 : Int32)) (by decide) (by decide) rfl (fun ls hl => ?_)
      refine lv_goto hx hb dX12_insertAll_49 (tgt := 32) rfl ?_
      exact hK32 _ _ _ _ _ hS hW (hl.keep [true, false, true, false, false, false] rfl) h
set_option maxRecDepth 20000 in
set_option maxHeartbeats 4000000 in
theorem t_X12_insertAll_32 {p : Program} {l : Launch} {e : Env} {s : State} {m : MethodId} {args : Array Value} {below : List Frame} {meth : Method} {c : Code} {H : Heap} {locs : List Loc} {D : va_G} {tc : Nat → ClassId} {b0 : Nat} {ls : Array Slot} {G : Lay} {Qx : Int32 → Mem → Prop} {l0 : Nat} {l2 : Int32}  {σ : Mem} (C : Cx p s m args meth c cX12_insertAll RX12 6 D tc b0) (hr : meth.sig.returnType = (some FieldType.boolean)) (hS : va_S (AA b0) s.heap H locs) (hW : Wd G D tc b0 σ H) (hl : hL b0 ls 6 [some (.inr (.inr l0)), none, some (.inl l2), none, none, none]) (h : X_X12_insertAll_32 G Qx l0 l2 σ) : W p l e rm_X12_insertAll s m args below meth c H locs 0 0 (MQ below (va_Qi Qx (fun u t => Pw G D tc b0 u t) (AA b0)) args s 0 0 (AA b0)) (F0 m 32 ls []) := by
  obtain ⟨n, h⟩ := h
  exact t_X12_insertAll_32_n C hr n l2 σ H locs ls hS hW hl h
set_option maxRecDepth 20000 in
set_option maxHeartbeats 4000000 in
theorem t_X12_insertAll_10_n {p : Program} {l : Launch} {e : Env} {s : State} {m : MethodId} {args : Array Value} {below : List Frame} {meth : Method} {c : Code} {D : va_G} {tc : Nat → ClassId} {b0 : Nat} {G : Lay} {Qx : Int32 → Mem → Prop} {l0 : Nat} (C : Cx p s m args meth c cX12_insertAll RX12 6 D tc b0) (hr : meth.sig.returnType = (some FieldType.boolean)) (n : Nat) : ∀ (l2 : Int32) (σ : Mem) (H : Heap) (locs : List Loc) (ls : Array Slot), va_S (AA b0) s.heap H locs → Wd G D tc b0 σ H → hL b0 ls 6 [some (.inr (.inr l0)), none, some (.inl l2), none, none, none] → Lp (X_X12_insertAll_10_s G Qx l0) n (l2, σ) → W p l e rm_X12_insertAll s m args below meth c H locs 0 0 (MQ below (va_Qi Qx (fun u t => Pw G D tc b0 u t) (AA b0)) args s 0 0 (AA b0)) (F0 m 10 ls []) := by
  have hx := C.1
  have hb := C.2.1
  induction n with
  | zero => intro l2 σ H locs ls hS hW hl h; exact False.elim h
  | succ n hK10 =>
    intro l2 σ H locs ls hS hW hl h
    replace h : X_X12_insertAll_10_s G Qx l0 (Lp (X_X12_insertAll_10_s G Qx l0) n) (l2, σ) := h
    unfold X_X12_insertAll_10_s at h
    refine x_iload_n C hl dX12_insertAll_10 rfl ?_
    refine lv_sipush (v := (240 : Int32)) hx hb dX12_insertAll_11 (by decide) ?_
    refine lv_icmp_ge hx hb dX12_insertAll_14 (tgt := 30) rfl (fun hc => ?_) (fun hc => ?_)
    · replace h := h.1 hc
      refine lv_iconst (v := (0 : Int32)) hx hb dX12_insertAll_30 (by decide) ?_
      refine x_istore_n C hl dX12_insertAll_31 (by decide) rfl (fun ls hl => ?_)
      exact t_X12_insertAll_32 C hr hS hW (hl.keep [true, false, true, false, false, false] rfl) h
    · replace h := h.2 hc
      refine x_aload_n C hl dX12_insertAll_17 rfl ?_
      have t1 := h.1
      replace h := h.2
      refine x_get C hW (t := 12) (k := 76) t1 kl_12 (by decide) fl_X12_184 (v := rv b0 (mR σ l0 76)) rfl dX12_insertAll_18 ?_
      refine x_iload_n C hl dX12_insertAll_21 rfl ?_
      refine lv_iconst (v := (0 : Int32)) hx hb dX12_insertAll_22 (by decide) ?_
      have t2 := h.1
      replace h := h.2
      have v3 := h.1
      replace h := h.2
      refine x_zast C hW hS t2 v3 dX12_insertAll_23 (fun H locs hW hS => ?_)
      obtain ⟨s4, e_s4⟩ : ∃ z : Mem, z = (sI σ (mR σ l0 76) l2.toNatClampNeg (vp_nar .boolean (0 : Int32))) := ⟨_, rfl⟩
      replace h := h s4 e_s4
      replace hW : Wd G D tc b0 s4 H := by rw [e_s4]; exact hW
      refine x_iinc C hl dX12_insertAll_24 rfl (v := (1 : Int32)) (by decide) (by decide) rfl (fun ls hl => ?_)
      refine lv_goto hx hb dX12_insertAll_27 (tgt := 10) rfl ?_
      exact hK10 _ _ _ _ _ hS hW (hl.keep [true, false, true, false, false, false] rfl) h
set_option maxRecDepth 20000 in
set_option maxHeartbeats 4000000 in
theorem t_X12_insertAll_10 {p : Program} {l : Launch} {e : Env} {s : State} {m : MethodId} {args : Array Value} {below : List Frame} {meth : Method} {c : Code} {H : Heap} {locs : List Loc} {D : va_G} {tc : Nat → ClassId} {b0 : Nat} {ls : Array Slot} {G : Lay} {Qx : Int32 → Mem → Prop} {l0 : Nat} {l2 : Int32}  {σ : Mem} (C : Cx p s m args meth c cX12_insertAll RX12 6 D tc b0) (hr : meth.sig.returnType = (some FieldType.boolean)) (hS : va_S (AA b0) s.heap H locs) (hW : Wd G D tc b0 σ H) (hl : hL b0 ls 6 [some (.inr (.inr l0)), none, some (.inl l2), none, none, none]) (h : X_X12_insertAll_10 G Qx l0 l2 σ) : W p l e rm_X12_insertAll s m args below meth c H locs 0 0 (MQ below (va_Qi Qx (fun u t => Pw G D tc b0 u t) (AA b0)) args s 0 0 (AA b0)) (F0 m 10 ls []) := by
  obtain ⟨n, h⟩ := h
  exact t_X12_insertAll_10_n C hr n l2 σ H locs ls hS hW hl h
set_option maxRecDepth 20000 in
set_option maxHeartbeats 4000000 in
theorem t_X12_insertAll_0 {p : Program} {l : Launch} {e : Env} {s : State} {m : MethodId} {args : Array Value} {below : List Frame} {meth : Method} {c : Code} {H : Heap} {locs : List Loc} {D : va_G} {tc : Nat → ClassId} {b0 : Nat} {ls : Array Slot} {G : Lay} {Qx : Int32 → Mem → Prop} {l0 : Nat} {l1 : Int32}  {σ : Mem} (C : Cx p s m args meth c cX12_insertAll RX12 6 D tc b0) (hr : meth.sig.returnType = (some FieldType.boolean)) (hS : va_S (AA b0) s.heap H locs) (hW : Wd G D tc b0 σ H) (hl : hL b0 ls 6 [some (.inr (.inr l0)), some (.inl l1), none, none, none, none]) (h : X_X12_insertAll_0 G Qx l0 l1  σ) : W p l e rm_X12_insertAll s m args below meth c H locs 0 0 (MQ below (va_Qi Qx (fun u t => Pw G D tc b0 u t) (AA b0)) args s 0 0 (AA b0)) (F0 m 0 ls []) := by
  have hx := C.1
  have hb := C.2.1
  unfold X_X12_insertAll_0 at h
  refine x_aload_n C hl dX12_insertAll_0 rfl ?_
  refine x_iload_n C hl dX12_insertAll_1 rfl ?_
  refine lv_iconst (v := (1 : Int32)) hx hb dX12_insertAll_2 (by decide) ?_
  refine lv_iconst (v := (0 : Int32)) hx hb dX12_insertAll_3 (by decide) ?_
  refine lv_iconst (v := (0 : Int32)) hx hb dX12_insertAll_4 (by decide) ?_
  have t1 := h.1
  replace h := h.2
  refine y_v (x_run (As := [.int l1, .int (1 : Int32), .int (0 : Int32), .int (0 : Int32)]) C hW hS (T_X12_inOrder l l0 l1 (1 : Int32) (0 : Int32) (0 : Int32) σ _ h) t1 kl_12 (CW.of yv_X12_inOrder ml_X12_446) ⟨rfl, rfl, ⟨by decide, by decide⟩, by decide, by decide⟩ rfl hl.1 rfl (by decide) dX12_insertAll_5) hS (fun s2 H locs h hW hS => ?_)
  refine lv_iconst (v := (0 : Int32)) hx hb dX12_insertAll_8 (by decide) ?_
  refine x_istore_n C hl dX12_insertAll_9 (by decide) rfl (fun ls hl => ?_)
  exact t_X12_insertAll_10 C hr hS hW (hl.keep [true, false, true, false, false, false] rfl) h
theorem T_X12_insertAll (l : Launch) {G : Lay} {D : va_G} {tc : Nat → ClassId} {b0 : Nat} (l0 : Nat) (l1 : Int32) (σ : Mem) (Qx : Int32 → Mem → Prop) (h : X_X12_insertAll G Qx l0 l1 σ) : MI l yX12_insertAll cX12_insertAll 6 ((some FieldType.boolean)) rm_X12_insertAll G D tc b0 [rv b0 l0, .int l1] σ Qx :=
  x_entry (y := yX12_insertAll) [.inr (.inr l0), .inl l1] 4 (by decide) (Nat.le_of_ble_eq_true rfl) (fun p e s m args below meth c ls C hr hW hl => t_X12_insertAll_0 C hr va_S.rf hW (hl.keep [true, true, false, false, false, false] rfl) h)
/-! X12_change -/
set_option maxRecDepth 20000 in
set_option maxHeartbeats 4000000 in
theorem t_X12_change_46 {p : Program} {l : Launch} {e : Env} {s : State} {m : MethodId} {args : Array Value} {below : List Frame} {meth : Method} {c : Code} {H : Heap} {locs : List Loc} {D : va_G} {tc : Nat → ClassId} {b0 : Nat} {ls : Array Slot} {G : Lay} {Qx : Int32 → Mem → Prop} {l0 : Nat} {l1 : Int32}  {σ : Mem} (C : Cx p s m args meth c cX12_change RX12 6 D tc b0) (hr : meth.sig.returnType = (some FieldType.boolean)) (hS : va_S (AA b0) s.heap H locs) (hW : Wd G D tc b0 σ H) (hl : hL b0 ls 6 [some (.inr (.inr l0)), some (.inl l1), none, none, none, none]) (h : X_X12_change_46 G Qx l0 l1  σ) : W p l e rm_X12_change s m args below meth c H locs 0 0 (MQ below (va_Qi Qx (fun u t => Pw G D tc b0 u t) (AA b0)) args s 0 0 (AA b0)) (F0 m 46 ls []) := by
  have hx := C.1
  have hb := C.2.1
  unfold X_X12_change_46 at h
  refine x_aload_n C hl dX12_change_46 rfl ?_
  refine lv_iconst (v := (2 : Int32)) hx hb dX12_change_47 (by decide) ?_
  refine x_iload_n C hl dX12_change_48 rfl ?_
  have t1 := h.1
  replace h := h.2
  refine y_i (x_run (As := [.int (2 : Int32), .int l1]) C hW hS (T_X12_ends l l0 (2 : Int32) l1 σ _ h) t1 kl_12 (CW.of yv_X12_ends ml_X12_453) ⟨rfl, rfl, ⟨by decide, by decide⟩, by decide, by decide⟩ rfl hl.1 rfl (by decide) dX12_change_49) hS (fun w3 s2 H locs h hW hS => ?_)
  exact r_z C hr hW hS h.1 h.2 dX12_change_52
set_option maxRecDepth 20000 in
set_option maxHeartbeats 4000000 in
theorem t_X12_change_176 {p : Program} {l : Launch} {e : Env} {s : State} {m : MethodId} {args : Array Value} {below : List Frame} {meth : Method} {c : Code} {H : Heap} {locs : List Loc} {D : va_G} {tc : Nat → ClassId} {b0 : Nat} {ls : Array Slot} {G : Lay} {Qx : Int32 → Mem → Prop} {l0 : Nat} {l1 : Int32} {l2 : Int32} {l3 : Int32} {l4 : Int32} {k0 : Nat} {k1 : Int32} {k2 : Int32} {K56 : Int32 × Mem → Prop} {σ : Mem} (C : Cx p s m args meth c cX12_change RX12 6 D tc b0) (hr : meth.sig.returnType = (some FieldType.boolean)) (hK56 : ∀ (x4 : Int32) (σ : Mem) (H : Heap) (locs : List Loc) (ls : Array Slot), va_S (AA b0) s.heap H locs → Wd G D tc b0 σ H → hL b0 ls 6 [some (.inr (.inr l0)), some (.inl l1), some (.inl l2), some (.inl l3), some (.inl x4), none] → K56 (x4, σ) → W p l e rm_X12_change s m args below meth c H locs 0 0 (MQ below (va_Qi Qx (fun u t => Pw G D tc b0 u t) (AA b0)) args s 0 0 (AA b0)) (F0 m 56 ls [])) (hS : va_S (AA b0) s.heap H locs) (hW : Wd G D tc b0 σ H) (hl : hL b0 ls 6 [some (.inr (.inr l0)), some (.inl l1), some (.inl l2), some (.inl l3), some (.inl l4), none]) (h : X_X12_change_176 G Qx K56 l0 l1 l2 l3 l4 k0 k1 k2 σ) : W p l e rm_X12_change s m args below meth c H locs 0 0 (MQ below (va_Qi Qx (fun u t => Pw G D tc b0 u t) (AA b0)) args s 0 0 (AA b0)) (F0 m 176 ls [.int k2, .int k1, rv b0 k0]) := by
  have hx := C.1
  have hb := C.2.1
  unfold X_X12_change_176 at h
  have t1 := h.1
  replace h := h.2
  have v2 := h.1
  replace h := h.2
  refine x_iast C hW hS t1 v2 dX12_change_176 (fun H locs hW hS => ?_)
  obtain ⟨s3, e_s3⟩ : ∃ z : Mem, z = (sI σ k0 k1.toNatClampNeg k2) := ⟨_, rfl⟩
  replace h := h s3 e_s3
  replace hW : Wd G D tc b0 s3 H := by rw [e_s3]; exact hW
  refine x_iinc C hl dX12_change_177 rfl (v := (1 : Int32)) (by decide) (by decide) rfl (fun ls hl => ?_)
  refine lv_goto hx hb dX12_change_180 (tgt := 56) rfl ?_
  exact hK56 _ _ _ _ _ hS hW (hl.keep [true, true, true, true, true, false] rfl) h
set_option maxRecDepth 20000 in
set_option maxHeartbeats 4000000 in
theorem t_X12_change_136 {p : Program} {l : Launch} {e : Env} {s : State} {m : MethodId} {args : Array Value} {below : List Frame} {meth : Method} {c : Code} {H : Heap} {locs : List Loc} {D : va_G} {tc : Nat → ClassId} {b0 : Nat} {ls : Array Slot} {G : Lay} {Qx : Int32 → Mem → Prop} {l0 : Nat} {l1 : Int32} {l2 : Int32} {l3 : Int32} {l4 : Int32} {k0 : Int32} {K56 : Int32 × Mem → Prop} {σ : Mem} (C : Cx p s m args meth c cX12_change RX12 6 D tc b0) (hr : meth.sig.returnType = (some FieldType.boolean)) (hK56 : ∀ (x4 : Int32) (σ : Mem) (H : Heap) (locs : List Loc) (ls : Array Slot), va_S (AA b0) s.heap H locs → Wd G D tc b0 σ H → hL b0 ls 6 [some (.inr (.inr l0)), some (.inl l1), some (.inl l2), some (.inl l3), some (.inl x4), none] → K56 (x4, σ) → W p l e rm_X12_change s m args below meth c H locs 0 0 (MQ below (va_Qi Qx (fun u t => Pw G D tc b0 u t) (AA b0)) args s 0 0 (AA b0)) (F0 m 56 ls [])) (hS : va_S (AA b0) s.heap H locs) (hW : Wd G D tc b0 σ H) (hl : hL b0 ls 6 [some (.inr (.inr l0)), some (.inl l1), some (.inl l2), some (.inl l3), some (.inl l4), none]) (h : X_X12_change_136 G Qx K56 l0 l1 l2 l3 l4 k0 σ) : W p l e rm_X12_change s m args below meth c H locs 0 0 (MQ below (va_Qi Qx (fun u t => Pw G D tc b0 u t) (AA b0)) args s 0 0 (AA b0)) (F0 m 136 ls [.int k0]) := by
  have hx := C.1
  have hb := C.2.1
  unfold X_X12_change_136 at h
  refine x_istore C hl dX12_change_136 (by decide) rfl (fun ls hl => ?_)
  refine x_aload_n C hl dX12_change_138 rfl ?_
  have t1 := h.1
  replace h := h.2
  refine x_get C hW (t := 12) (k := 78) t1 kl_12 (by decide) fl_X12_190 (v := rv b0 (mR σ l0 78)) rfl dX12_change_139 ?_
  refine x_iload C hl dX12_change_142 rfl ?_
  refine x_iload C hl dX12_change_144 rfl ?_
  refine lv_if_eq hx hb dX12_change_146 (tgt := 164) rfl (fun hc => ?_) (fun hc => ?_)
  · replace h := h.1 hc
    refine x_aload_n C hl dX12_change_164 rfl ?_
    refine x_get C hW (t := 12) (k := 31) t1 kl_12 (by decide) fl_X12_89 (v := rv b0 (mR σ l0 31)) rfl dX12_change_165 ?_
    refine lv_bipush (v := (16 : Int32)) hx hb dX12_change_168 (by decide) ?_
    refine x_iload_n C hl dX12_change_170 rfl ?_
    refine lv_imul hx hb dX12_change_171 ?_
    refine x_iload C hl dX12_change_172 rfl ?_
    refine lv_iadd hx hb dX12_change_174 ?_
    have t2 := h.1
    replace h := h.2
    have v3 := h.1
    replace h := h.2
    refine x_iald C hW t2 v3 dX12_change_175 ?_
    exact t_X12_change_176 C hr hK56 hS hW (hl.keep [true, true, true, true, true, false] rfl) h
  · replace h := h.2 hc
    refine x_aload_n C hl dX12_change_149 rfl ?_
    refine x_get C hW (t := 12) (k := 47) t1 kl_12 (by decide) fl_X12_135 (v := rv b0 (mR σ l0 47)) rfl dX12_change_150 ?_
    refine lv_bipush (v := (16 : Int32)) hx hb dX12_change_153 (by decide) ?_
    refine x_iload_n C hl dX12_change_155 rfl ?_
    refine lv_imul hx hb dX12_change_156 ?_
    refine x_iload C hl dX12_change_157 rfl ?_
    refine lv_iadd hx hb dX12_change_159 ?_
    have t4 := h.1
    replace h := h.2
    have v5 := h.1
    replace h := h.2
    refine x_iald C hW t4 v5 dX12_change_160 ?_
    refine lv_goto hx hb dX12_change_161 (tgt := 176) rfl ?_
    exact t_X12_change_176 C hr hK56 hS hW (hl.keep [true, true, true, true, true, false] rfl) h
set_option maxRecDepth 20000 in
set_option maxHeartbeats 4000000 in
theorem t_X12_change_135 {p : Program} {l : Launch} {e : Env} {s : State} {m : MethodId} {args : Array Value} {below : List Frame} {meth : Method} {c : Code} {H : Heap} {locs : List Loc} {D : va_G} {tc : Nat → ClassId} {b0 : Nat} {ls : Array Slot} {G : Lay} {Qx : Int32 → Mem → Prop} {l0 : Nat} {l1 : Int32} {l2 : Int32} {l3 : Int32} {l4 : Int32}  {K56 : Int32 × Mem → Prop} {σ : Mem} (C : Cx p s m args meth c cX12_change RX12 6 D tc b0) (hr : meth.sig.returnType = (some FieldType.boolean)) (hK56 : ∀ (x4 : Int32) (σ : Mem) (H : Heap) (locs : List Loc) (ls : Array Slot), va_S (AA b0) s.heap H locs → Wd G D tc b0 σ H → hL b0 ls 6 [some (.inr (.inr l0)), some (.inl l1), some (.inl l2), some (.inl l3), some (.inl x4), none] → K56 (x4, σ) → W p l e rm_X12_change s m args below meth c H locs 0 0 (MQ below (va_Qi Qx (fun u t => Pw G D tc b0 u t) (AA b0)) args s 0 0 (AA b0)) (F0 m 56 ls [])) (hS : va_S (AA b0) s.heap H locs) (hW : Wd G D tc b0 σ H) (hl : hL b0 ls 6 [some (.inr (.inr l0)), some (.inl l1), some (.inl l2), some (.inl l3), some (.inl l4), none]) (h : X_X12_change_135 G Qx K56 l0 l1 l2 l3 l4  σ) : W p l e rm_X12_change s m args below meth c H locs 0 0 (MQ below (va_Qi Qx (fun u t => Pw G D tc b0 u t) (AA b0)) args s 0 0 (AA b0)) (F0 m 135 ls []) := by
  have hx := C.1
  have hb := C.2.1
  unfold X_X12_change_135 at h
  refine lv_iconst (v := (0 : Int32)) hx hb dX12_change_135 (by decide) ?_
  exact t_X12_change_136 C hr hK56 hS hW (hl.keep [true, true, true, true, true, false] rfl) h
set_option maxRecDepth 20000 in
set_option maxHeartbeats 4000000 in
theorem t_X12_change_223_n {p : Program} {l : Launch} {e : Env} {s : State} {m : MethodId} {args : Array Value} {below : List Frame} {meth : Method} {c : Code} {D : va_G} {tc : Nat → ClassId} {b0 : Nat} {G : Lay} {Qx : Int32 → Mem → Prop} {l0 : Nat} {l1 : Int32} {l2 : Int32} {l3 : Int32} (C : Cx p s m args meth c cX12_change RX12 6 D tc b0) (hr : meth.sig.returnType = (some FieldType.boolean)) (n : Nat) : ∀ (l4 : Int32) (σ : Mem) (H : Heap) (locs : List Loc) (ls : Array Slot), va_S (AA b0) s.heap H locs → Wd G D tc b0 σ H → hL b0 ls 6 [some (.inr (.inr l0)), some (.inl l1), some (.inl l2), some (.inl l3), some (.inl l4), none] → Lp (X_X12_change_223_s G Qx l0 l1 l2 l3) n (l4, σ) → W p l e rm_X12_change s m args below meth c H locs 0 0 (MQ below (va_Qi Qx (fun u t => Pw G D tc b0 u t) (AA b0)) args s 0 0 (AA b0)) (F0 m 223 ls []) := by
  have hx := C.1
  have hb := C.2.1
  induction n with
  | zero => intro l4 σ H locs ls hS hW hl h; exact False.elim h
  | succ n hK223 =>
    intro l4 σ H locs ls hS hW hl h
    replace h : X_X12_change_223_s G Qx l0 l1 l2 l3 (Lp (X_X12_change_223_s G Qx l0 l1 l2 l3) n) (l4, σ) := h
    unfold X_X12_change_223_s at h
    refine x_iload C hl dX12_change_223 rfl ?_
    refine lv_bipush (v := (16 : Int32)) hx hb dX12_change_225 (by decide) ?_
    refine lv_icmp_ge hx hb dX12_change_227 (tgt := 255) rfl (fun hc => ?_) (fun hc => ?_)
    · replace h := h.1 hc
      refine x_aload_n C hl dX12_change_255 rfl ?_
      have t1 := h.1
      replace h := h.2
      refine x_get C hW (t := 12) (k := 30) t1 kl_12 (by decide) fl_X12_86 (v := rv b0 (mR σ l0 30)) rfl dX12_change_256 ?_
      refine x_iload_n C hl dX12_change_259 rfl ?_
      refine lv_dup2_11 hx hb dX12_change_260 rfl (rv_cat _ _) ?_
      have t2 := h.1
      replace h := h.2
      have v3 := h.1
      replace h := h.2
      refine x_iald C hW t2 v3 dX12_change_261 ?_
      refine lv_iconst (v := (1 : Int32)) hx hb dX12_change_262 (by decide) ?_
      refine lv_iadd hx hb dX12_change_263 ?_
      refine x_iast C hW hS t2 v3 dX12_change_264 (fun H locs hW hS => ?_)
      obtain ⟨s4, e_s4⟩ : ∃ z : Mem, z = (sI σ (mR σ l0 30) l3.toNatClampNeg ((mI σ (mR σ l0 30) l3.toNatClampNeg) + (1 : Int32))) := ⟨_, rfl⟩
      replace h := h s4 e_s4
      replace hW : Wd G D tc b0 s4 H := by rw [e_s4]; exact hW
      refine x_aload_n C hl dX12_change_265 rfl ?_
      refine lv_iconst (v := (1 : Int32)) hx hb dX12_change_266 (by decide) ?_
      refine x_iload_n C hl dX12_change_267 rfl ?_
      refine x_iload_n C hl dX12_change_268 rfl ?_
      refine y_v (x_run (As := [.int (1 : Int32), .int l1, .int l2]) C hW hS (T_X12_written l l0 (1 : Int32) l1 l2 s4 _ h) t1 kl_12 (CW.of yv_X12_written ml_X12_459) ⟨rfl, rfl, ⟨by decide, by decide⟩, by decide, by decide⟩ rfl hl.1 rfl (by decide) dX12_change_269) hS (fun s5 H locs h hW hS => ?_)
      refine lv_iconst (v := (1 : Int32)) hx hb dX12_change_272 (by decide) ?_
      exact r_z C hr hW hS h.1 h.2 dX12_change_273
    · replace h := h.2 hc
      refine x_aload_n C hl dX12_change_230 rfl ?_
      have t6 := h.1
      replace h := h.2
      refine x_get C hW (t := 12) (k := 31) t6 kl_12 (by decide) fl_X12_89 (v := rv b0 (mR σ l0 31)) rfl dX12_change_231 ?_
      refine lv_bipush (v := (16 : Int32)) hx hb dX12_change_234 (by decide) ?_
      refine x_iload_n C hl dX12_change_236 rfl ?_
      refine lv_imul hx hb dX12_change_237 ?_
      refine x_iload C hl dX12_change_238 rfl ?_
      refine lv_iadd hx hb dX12_change_240 ?_
      refine x_aload_n C hl dX12_change_241 rfl ?_
      refine x_get C hW (t := 12) (k := 78) t6 kl_12 (by decide) fl_X12_190 (v := rv b0 (mR σ l0 78)) rfl dX12_change_242 ?_
      refine x_iload C hl dX12_change_245 rfl ?_
      have t7 := h.1
      replace h := h.2
      have v8 := h.1
      replace h := h.2
      refine x_iald C hW t7 v8 dX12_change_247 ?_
      have t9 := h.1
      replace h := h.2
      have v10 := h.1
      replace h := h.2
      refine x_iast C hW hS t9 v10 dX12_change_248 (fun H locs hW hS => ?_)
      obtain ⟨s11, e_s11⟩ : ∃ z : Mem, z = (sI σ (mR σ l0 31) (((16 : Int32) * l3) + l4).toNatClampNeg (mI σ (mR σ l0 78) l4.toNatClampNeg)) := ⟨_, rfl⟩
      replace h := h s11 e_s11
      replace hW : Wd G D tc b0 s11 H := by rw [e_s11]; exact hW
      refine x_iinc C hl dX12_change_249 rfl (v := (1 : Int32)) (by decide) (by decide) rfl (fun ls hl => ?_)
      refine lv_goto hx hb dX12_change_252 (tgt := 223) rfl ?_
      exact hK223 _ _ _ _ _ hS hW (hl.keep [true, true, true, true, true, false] rfl) h
set_option maxRecDepth 20000 in
set_option maxHeartbeats 4000000 in
theorem t_X12_change_223 {p : Program} {l : Launch} {e : Env} {s : State} {m : MethodId} {args : Array Value} {below : List Frame} {meth : Method} {c : Code} {H : Heap} {locs : List Loc} {D : va_G} {tc : Nat → ClassId} {b0 : Nat} {ls : Array Slot} {G : Lay} {Qx : Int32 → Mem → Prop} {l0 : Nat} {l1 : Int32} {l2 : Int32} {l3 : Int32} {l4 : Int32}  {σ : Mem} (C : Cx p s m args meth c cX12_change RX12 6 D tc b0) (hr : meth.sig.returnType = (some FieldType.boolean)) (hS : va_S (AA b0) s.heap H locs) (hW : Wd G D tc b0 σ H) (hl : hL b0 ls 6 [some (.inr (.inr l0)), some (.inl l1), some (.inl l2), some (.inl l3), some (.inl l4), none]) (h : X_X12_change_223 G Qx l0 l1 l2 l3 l4 σ) : W p l e rm_X12_change s m args below meth c H locs 0 0 (MQ below (va_Qi Qx (fun u t => Pw G D tc b0 u t) (AA b0)) args s 0 0 (AA b0)) (F0 m 223 ls []) := by
  obtain ⟨n, h⟩ := h
  exact t_X12_change_223_n C hr n l4 σ H locs ls hS hW hl h
set_option maxRecDepth 20000 in
set_option maxHeartbeats 4000000 in
theorem t_X12_change_56_n {p : Program} {l : Launch} {e : Env} {s : State} {m : MethodId} {args : Array Value} {below : List Frame} {meth : Method} {c : Code} {D : va_G} {tc : Nat → ClassId} {b0 : Nat} {G : Lay} {Qx : Int32 → Mem → Prop} {l0 : Nat} {l1 : Int32} {l2 : Int32} {l3 : Int32} (C : Cx p s m args meth c cX12_change RX12 6 D tc b0) (hr : meth.sig.returnType = (some FieldType.boolean)) (n : Nat) : ∀ (l4 : Int32) (σ : Mem) (H : Heap) (locs : List Loc) (ls : Array Slot), va_S (AA b0) s.heap H locs → Wd G D tc b0 σ H → hL b0 ls 6 [some (.inr (.inr l0)), some (.inl l1), some (.inl l2), some (.inl l3), some (.inl l4), none] → Lp (X_X12_change_56_s G Qx l0 l1 l2 l3) n (l4, σ) → W p l e rm_X12_change s m args below meth c H locs 0 0 (MQ below (va_Qi Qx (fun u t => Pw G D tc b0 u t) (AA b0)) args s 0 0 (AA b0)) (F0 m 56 ls []) := by
  have hx := C.1
  have hb := C.2.1
  induction n with
  | zero => intro l4 σ H locs ls hS hW hl h; exact False.elim h
  | succ n hK56 =>
    intro l4 σ H locs ls hS hW hl h
    replace h : X_X12_change_56_s G Qx l0 l1 l2 l3 (Lp (X_X12_change_56_s G Qx l0 l1 l2 l3) n) (l4, σ) := h
    unfold X_X12_change_56_s at h
    refine x_iload C hl dX12_change_56 rfl ?_
    refine lv_bipush (v := (16 : Int32)) hx hb dX12_change_58 (by decide) ?_
    refine lv_icmp_ge hx hb dX12_change_60 (tgt := 183) rfl (fun hc => ?_) (fun hc => ?_)
    · replace h := h.1 hc
      refine x_aload_n C hl dX12_change_183 rfl ?_
      refine x_aload_n C hl dX12_change_184 rfl ?_
      have t1 := h.1
      replace h := h.2
      refine x_get C hW (t := 12) (k := 43) t1 kl_12 (by decide) fl_X12_123 (v := rv b0 (mR σ l0 43)) rfl dX12_change_185 ?_
      refine x_iload_n C hl dX12_change_188 rfl ?_
      have t2 := h.1
      replace h := h.2
      have v3 := h.1
      replace h := h.2
      refine x_iald C hW t2 v3 dX12_change_189 ?_
      refine x_aload_n C hl dX12_change_190 rfl ?_
      refine x_get C hW (t := 12) (k := 44) t1 kl_12 (by decide) fl_X12_126 (v := rv b0 (mR σ l0 44)) rfl dX12_change_191 ?_
      refine x_iload_n C hl dX12_change_194 rfl ?_
      have t4 := h.1
      replace h := h.2
      have v5 := h.1
      replace h := h.2
      refine x_iald C hW t4 v5 dX12_change_195 ?_
      refine x_aload_n C hl dX12_change_196 rfl ?_
      refine x_get C hW (t := 12) (k := 45) t1 kl_12 (by decide) fl_X12_129 (v := rv b0 (mR σ l0 45)) rfl dX12_change_197 ?_
      refine x_iload_n C hl dX12_change_200 rfl ?_
      have t6 := h.1
      replace h := h.2
      have v7 := h.1
      replace h := h.2
      refine x_iald C hW t6 v7 dX12_change_201 ?_
      refine x_aload_n C hl dX12_change_202 rfl ?_
      refine x_get C hW (t := 12) (k := 78) t1 kl_12 (by decide) fl_X12_190 (v := rv b0 (mR σ l0 78)) rfl dX12_change_203 ?_
      refine lv_iconst (v := (0 : Int32)) hx hb dX12_change_206 (by decide) ?_
      refine y_i (x_run (As := [.int (mI σ (mR σ l0 43) l1.toNatClampNeg), .int (mI σ (mR σ l0 44) l1.toNatClampNeg), .int (mI σ (mR σ l0 45) l1.toNatClampNeg), rv b0 (mR σ l0 78), .int (0 : Int32)]) C hW hS (T_X12_broken l l0 (mI σ (mR σ l0 43) l1.toNatClampNeg) (mI σ (mR σ l0 44) l1.toNatClampNeg) (mI σ (mR σ l0 45) l1.toNatClampNeg) (mR σ l0 78) (0 : Int32) σ _ h) t1 kl_12 (CW.of yv_X12_broken ml_X12_430) ⟨rfl, rfl, ⟨by decide, by decide⟩, by decide, by decide⟩ rfl hl.1 rfl (by decide) dX12_change_207) hS (fun w9 s8 H locs h hW hS => ?_)
      refine lv_if_eq hx hb dX12_change_210 (tgt := 220) rfl (fun hc => ?_) (fun hc => ?_)
      · replace h := h.1 hc
        refine lv_iconst (v := (0 : Int32)) hx hb dX12_change_220 (by decide) ?_
        refine x_istore C hl dX12_change_221 (by decide) rfl (fun ls hl => ?_)
        exact t_X12_change_223 C hr hS hW (hl.keep [true, true, true, true, true, false] rfl) h
      · replace h := h.2 hc
        refine x_aload_n C hl dX12_change_213 rfl ?_
        refine lv_iconst (v := (1 : Int32)) hx hb dX12_change_214 (by decide) ?_
        refine x_iload_n C hl dX12_change_215 rfl ?_
        refine y_i (x_run (As := [.int (1 : Int32), .int l1]) C hW hS (T_X12_ends l l0 (1 : Int32) l1 s8 _ h) t1 kl_12 (CW.of yv_X12_ends ml_X12_453) ⟨rfl, rfl, ⟨by decide, by decide⟩, by decide, by decide⟩ rfl hl.1 rfl (by decide) dX12_change_216) hS (fun w11 s10 H locs h hW hS => ?_)
        exact r_z C hr hW hS h.1 h.2 dX12_change_219
    · replace h := h.2 hc
      refine x_aload_n C hl dX12_change_63 rfl ?_
      have t12 := h.1
      replace h := h.2
      refine x_get C hW (t := 12) (k := 42) t12 kl_12 (by decide) fl_X12_120 (v := rv b0 (mR σ l0 42)) rfl dX12_change_64 ?_
      refine x_iload_n C hl dX12_change_67 rfl ?_
      have t13 := h.1
      replace h := h.2
      have v14 := h.1
      replace h := h.2
      refine x_iald C hW t13 v14 dX12_change_68 ?_
      refine lv_iconst (v := (2 : Int32)) hx hb dX12_change_69 (by decide) ?_
      refine lv_icmp_ne hx hb dX12_change_70 (tgt := 88) rfl (fun hc => ?_) (fun hc => ?_)
      · replace h := h.2 hc
        refine x_iload C hl dX12_change_88 rfl ?_
        refine x_aload_n C hl dX12_change_90 rfl ?_
        refine x_get C hW (t := 12) (k := 6) t12 kl_12 (by decide) fl_X12_23 (v := rv b0 (mR σ l0 6)) rfl dX12_change_91 ?_
        refine x_aload_n C hl dX12_change_94 rfl ?_
        refine x_get C hW (t := 12) (k := 45) t12 kl_12 (by decide) fl_X12_129 (v := rv b0 (mR σ l0 45)) rfl dX12_change_95 ?_
        refine x_iload_n C hl dX12_change_98 rfl ?_
        have t15 := h.1
        replace h := h.2
        have v16 := h.1
        replace h := h.2
        refine x_iald C hW t15 v16 dX12_change_99 ?_
        have t17 := h.1
        replace h := h.2
        have v18 := h.1
        replace h := h.2
        refine x_iald C hW t17 v18 dX12_change_100 ?_
        refine lv_icmp_ge hx hb dX12_change_101 (tgt := 135) rfl (fun hc => ?_) (fun hc => ?_)
        · replace h := h.1 hc
          exact t_X12_change_135 C hr hK56 hS hW (hl.keep [true, true, true, true, true, false] rfl) h
        · replace h := h.2 hc
          refine x_aload_n C hl dX12_change_104 rfl ?_
          refine x_get C hW (t := 12) (k := 47) t12 kl_12 (by decide) fl_X12_135 (v := rv b0 (mR σ l0 47)) rfl dX12_change_105 ?_
          refine lv_bipush (v := (16 : Int32)) hx hb dX12_change_108 (by decide) ?_
          refine x_iload_n C hl dX12_change_110 rfl ?_
          refine lv_imul hx hb dX12_change_111 ?_
          refine x_iload C hl dX12_change_112 rfl ?_
          refine lv_iadd hx hb dX12_change_114 ?_
          have t19 := h.1
          replace h := h.2
          have v20 := h.1
          replace h := h.2
          refine x_iald C hW t19 v20 dX12_change_115 ?_
          refine x_aload_n C hl dX12_change_116 rfl ?_
          refine x_get C hW (t := 12) (k := 48) t12 kl_12 (by decide) fl_X12_138 (v := rv b0 (mR σ l0 48)) rfl dX12_change_117 ?_
          refine lv_bipush (v := (16 : Int32)) hx hb dX12_change_120 (by decide) ?_
          refine x_iload_n C hl dX12_change_122 rfl ?_
          refine lv_imul hx hb dX12_change_123 ?_
          refine x_iload C hl dX12_change_124 rfl ?_
          refine lv_iadd hx hb dX12_change_126 ?_
          have t21 := h.1
          replace h := h.2
          have v22 := h.1
          replace h := h.2
          refine x_iald C hW t21 v22 dX12_change_127 ?_
          refine lv_icmp_eq hx hb dX12_change_128 (tgt := 135) rfl (fun hc => ?_) (fun hc => ?_)
          · replace h := h.1 hc
            exact t_X12_change_135 C hr hK56 hS hW (hl.keep [true, true, true, true, true, false] rfl) h
          · replace h := h.2 hc
            refine lv_iconst (v := (1 : Int32)) hx hb dX12_change_131 (by decide) ?_
            refine lv_goto hx hb dX12_change_132 (tgt := 136) rfl ?_
            exact t_X12_change_136 C hr hK56 hS hW (hl.keep [true, true, true, true, true, false] rfl) h
      · replace h := h.1 hc
        refine x_aload_n C hl dX12_change_73 rfl ?_
        refine x_get C hW (t := 12) (k := 77) t12 kl_12 (by decide) fl_X12_187 (v := rv b0 (mR σ l0 77)) rfl dX12_change_74 ?_
        refine lv_bipush (v := (16 : Int32)) hx hb dX12_change_77 (by decide) ?_
        refine x_iload_n C hl dX12_change_79 rfl ?_
        refine lv_imul hx hb dX12_change_80 ?_
        refine x_iload C hl dX12_change_81 rfl ?_
        refine lv_iadd hx hb dX12_change_83 ?_
        have t23 := h.1
        replace h := h.2
        have v24 := h.1
        replace h := h.2
        refine x_zald C hW t23 v24 dX12_change_84 ?_
        refine lv_goto hx hb dX12_change_85 (tgt := 136) rfl ?_
        exact t_X12_change_136 C hr hK56 hS hW (hl.keep [true, true, true, true, true, false] rfl) h
set_option maxRecDepth 20000 in
set_option maxHeartbeats 4000000 in
theorem t_X12_change_56 {p : Program} {l : Launch} {e : Env} {s : State} {m : MethodId} {args : Array Value} {below : List Frame} {meth : Method} {c : Code} {H : Heap} {locs : List Loc} {D : va_G} {tc : Nat → ClassId} {b0 : Nat} {ls : Array Slot} {G : Lay} {Qx : Int32 → Mem → Prop} {l0 : Nat} {l1 : Int32} {l2 : Int32} {l3 : Int32} {l4 : Int32}  {σ : Mem} (C : Cx p s m args meth c cX12_change RX12 6 D tc b0) (hr : meth.sig.returnType = (some FieldType.boolean)) (hS : va_S (AA b0) s.heap H locs) (hW : Wd G D tc b0 σ H) (hl : hL b0 ls 6 [some (.inr (.inr l0)), some (.inl l1), some (.inl l2), some (.inl l3), some (.inl l4), none]) (h : X_X12_change_56 G Qx l0 l1 l2 l3 l4 σ) : W p l e rm_X12_change s m args below meth c H locs 0 0 (MQ below (va_Qi Qx (fun u t => Pw G D tc b0 u t) (AA b0)) args s 0 0 (AA b0)) (F0 m 56 ls []) := by
  obtain ⟨n, h⟩ := h
  exact t_X12_change_56_n C hr n l4 σ H locs ls hS hW hl h
set_option maxRecDepth 20000 in
set_option maxHeartbeats 4000000 in
theorem t_X12_change_53 {p : Program} {l : Launch} {e : Env} {s : State} {m : MethodId} {args : Array Value} {below : List Frame} {meth : Method} {c : Code} {H : Heap} {locs : List Loc} {D : va_G} {tc : Nat → ClassId} {b0 : Nat} {ls : Array Slot} {G : Lay} {Qx : Int32 → Mem → Prop} {l0 : Nat} {l1 : Int32} {l2 : Int32} {l3 : Int32}  {σ : Mem} (C : Cx p s m args meth c cX12_change RX12 6 D tc b0) (hr : meth.sig.returnType = (some FieldType.boolean)) (hS : va_S (AA b0) s.heap H locs) (hW : Wd G D tc b0 σ H) (hl : hL b0 ls 6 [some (.inr (.inr l0)), some (.inl l1), some (.inl l2), some (.inl l3), none, none]) (h : X_X12_change_53 G Qx l0 l1 l2 l3  σ) : W p l e rm_X12_change s m args below meth c H locs 0 0 (MQ below (va_Qi Qx (fun u t => Pw G D tc b0 u t) (AA b0)) args s 0 0 (AA b0)) (F0 m 53 ls []) := by
  have hx := C.1
  have hb := C.2.1
  unfold X_X12_change_53 at h
  refine lv_iconst (v := (0 : Int32)) hx hb dX12_change_53 (by decide) ?_
  refine x_istore C hl dX12_change_54 (by decide) rfl (fun ls hl => ?_)
  exact t_X12_change_56 C hr hS hW (hl.keep [true, true, true, true, true, false] rfl) h
set_option maxRecDepth 20000 in
set_option maxHeartbeats 4000000 in
theorem t_X12_change_0 {p : Program} {l : Launch} {e : Env} {s : State} {m : MethodId} {args : Array Value} {below : List Frame} {meth : Method} {c : Code} {H : Heap} {locs : List Loc} {D : va_G} {tc : Nat → ClassId} {b0 : Nat} {ls : Array Slot} {G : Lay} {Qx : Int32 → Mem → Prop} {l0 : Nat} {l1 : Int32} {l2 : Int32}  {σ : Mem} (C : Cx p s m args meth c cX12_change RX12 6 D tc b0) (hr : meth.sig.returnType = (some FieldType.boolean)) (hS : va_S (AA b0) s.heap H locs) (hW : Wd G D tc b0 σ H) (hl : hL b0 ls 6 [some (.inr (.inr l0)), some (.inl l1), some (.inl l2), none, none, none]) (h : X_X12_change_0 G Qx l0 l1 l2  σ) : W p l e rm_X12_change s m args below meth c H locs 0 0 (MQ below (va_Qi Qx (fun u t => Pw G D tc b0 u t) (AA b0)) args s 0 0 (AA b0)) (F0 m 0 ls []) := by
  have hx := C.1
  have hb := C.2.1
  unfold X_X12_change_0 at h
  refine x_aload_n C hl dX12_change_0 rfl ?_
  refine x_aload_n C hl dX12_change_1 rfl ?_
  have t1 := h.1
  replace h := h.2
  refine x_get C hW (t := 12) (k := 43) t1 kl_12 (by decide) fl_X12_123 (v := rv b0 (mR σ l0 43)) rfl dX12_change_2 ?_
  refine x_iload_n C hl dX12_change_5 rfl ?_
  have t2 := h.1
  replace h := h.2
  have v3 := h.1
  replace h := h.2
  refine x_iald C hW t2 v3 dX12_change_6 ?_
  refine x_aload_n C hl dX12_change_7 rfl ?_
  refine x_get C hW (t := 12) (k := 44) t1 kl_12 (by decide) fl_X12_126 (v := rv b0 (mR σ l0 44)) rfl dX12_change_8 ?_
  refine x_iload_n C hl dX12_change_11 rfl ?_
  have t4 := h.1
  replace h := h.2
  have v5 := h.1
  replace h := h.2
  refine x_iald C hW t4 v5 dX12_change_12 ?_
  refine y_i (x_run (As := [.int (mI σ (mR σ l0 43) l1.toNatClampNeg), .int (mI σ (mR σ l0 44) l1.toNatClampNeg)]) C hW hS (T_X12_rowOf l l0 (mI σ (mR σ l0 43) l1.toNatClampNeg) (mI σ (mR σ l0 44) l1.toNatClampNeg) σ _ h) t1 kl_12 (CW.of yv_X12_rowOf ml_X12_369) ⟨rfl, rfl, ⟨by decide, by decide⟩, by decide, by decide⟩ rfl hl.1 rfl (by decide) dX12_change_13) hS (fun w7 s6 H locs h hW hS => ?_)
  refine x_istore_n C hl dX12_change_16 (by decide) rfl (fun ls hl => ?_)
  refine x_iload_n C hl dX12_change_17 rfl ?_
  refine lv_if_lt hx hb dX12_change_18 (tgt := 46) rfl (fun hc => ?_) (fun hc => ?_)
  · replace h := h.1 hc
    exact t_X12_change_46 C hr hS hW (hl.keep [true, true, false, false, false, false] rfl) h
  · replace h := h.2 hc
    refine x_aload_n C hl dX12_change_21 rfl ?_
    refine x_get C hW (t := 12) (k := 42) t1 kl_12 (by decide) fl_X12_120 (v := rv b0 (mR s6 l0 42)) rfl dX12_change_22 ?_
    refine x_iload_n C hl dX12_change_25 rfl ?_
    have t8 := h.1
    replace h := h.2
    have v9 := h.1
    replace h := h.2
    refine x_iald C hW t8 v9 dX12_change_26 ?_
    refine lv_iconst (v := (1 : Int32)) hx hb dX12_change_27 (by decide) ?_
    refine lv_icmp_ne hx hb dX12_change_28 (tgt := 53) rfl (fun hc => ?_) (fun hc => ?_)
    · replace h := h.2 hc
      exact t_X12_change_53 C hr hS hW (hl.keep [true, true, true, true, false, false] rfl) h
    · replace h := h.1 hc
      refine x_aload_n C hl dX12_change_31 rfl ?_
      refine x_get C hW (t := 12) (k := 30) t1 kl_12 (by decide) fl_X12_86 (v := rv b0 (mR s6 l0 30)) rfl dX12_change_32 ?_
      refine x_iload_n C hl dX12_change_35 rfl ?_
      have t10 := h.1
      replace h := h.2
      have v11 := h.1
      replace h := h.2
      refine x_iald C hW t10 v11 dX12_change_36 ?_
      refine x_aload_n C hl dX12_change_37 rfl ?_
      refine x_get C hW (t := 12) (k := 46) t1 kl_12 (by decide) fl_X12_132 (v := rv b0 (mR s6 l0 46)) rfl dX12_change_38 ?_
      refine x_iload_n C hl dX12_change_41 rfl ?_
      have t12 := h.1
      replace h := h.2
      have v13 := h.1
      replace h := h.2
      refine x_iald C hW t12 v13 dX12_change_42 ?_
      refine lv_icmp_eq hx hb dX12_change_43 (tgt := 53) rfl (fun hc => ?_) (fun hc => ?_)
      · replace h := h.1 hc
        exact t_X12_change_53 C hr hS hW (hl.keep [true, true, true, true, false, false] rfl) h
      · replace h := h.2 hc
        exact t_X12_change_46 C hr hS hW (hl.keep [true, true, false, false, false, false] rfl) h
theorem T_X12_change (l : Launch) {G : Lay} {D : va_G} {tc : Nat → ClassId} {b0 : Nat} (l0 : Nat) (l1 : Int32) (l2 : Int32) (σ : Mem) (Qx : Int32 → Mem → Prop) (h : X_X12_change G Qx l0 l1 l2 σ) : MI l yX12_change cX12_change 6 ((some FieldType.boolean)) rm_X12_change G D tc b0 [rv b0 l0, .int l1, .int l2] σ Qx :=
  x_entry (y := yX12_change) [.inr (.inr l0), .inl l1, .inl l2] 3 (by decide) (Nat.le_of_ble_eq_true rfl) (fun p e s m args below meth c ls C hr hW hl => t_X12_change_0 C hr va_S.rf hW (hl.keep [true, true, true, false, false, false] rfl) h)
/-! X12_changeAll -/
set_option maxRecDepth 20000 in
set_option maxHeartbeats 4000000 in
theorem t_X12_changeAll_70 {p : Program} {l : Launch} {e : Env} {s : State} {m : MethodId} {args : Array Value} {below : List Frame} {meth : Method} {c : Code} {H : Heap} {locs : List Loc} {D : va_G} {tc : Nat → ClassId} {b0 : Nat} {ls : Array Slot} {G : Lay} {Qx : Int32 → Mem → Prop} {l0 : Nat} {l2 : Int32} {l3 : Int32} {l5 : Int32} {k0 : Int32} {k1 : Int32} {K10 : Int32 × Mem → Prop} {K41 : Int32 × Int32 × Mem → Prop} {σ : Mem} (C : Cx p s m args meth c cX12_changeAll RX12 6 D tc b0) (hr : meth.sig.returnType = (some FieldType.boolean)) (hK10 : ∀ (x2 : Int32) (σ : Mem) (H : Heap) (locs : List Loc) (ls : Array Slot), va_S (AA b0) s.heap H locs → Wd G D tc b0 σ H → hL b0 ls 6 [some (.inr (.inr l0)), none, some (.inl x2), none, none, none] → K10 (x2, σ) → W p l e rm_X12_changeAll s m args below meth c H locs 0 0 (MQ below (va_Qi Qx (fun u t => Pw G D tc b0 u t) (AA b0)) args s 0 0 (AA b0)) (F0 m 10 ls [])) (hK41 : ∀ (x4 : Int32) (x5 : Int32) (σ : Mem) (H : Heap) (locs : List Loc) (ls : Array Slot), va_S (AA b0) s.heap H locs → Wd G D tc b0 σ H → hL b0 ls 6 [some (.inr (.inr l0)), none, some (.inl l2), some (.inl l3), some (.inl x4), some (.inl x5)] → K41 (x4, x5, σ) → W p l e rm_X12_changeAll s m args below meth c H locs 0 0 (MQ below (va_Qi Qx (fun u t => Pw G D tc b0 u t) (AA b0)) args s 0 0 (AA b0)) (F0 m 41 ls [])) (hS : va_S (AA b0) s.heap H locs) (hW : Wd G D tc b0 σ H) (hl : hL b0 ls 6 [some (.inr (.inr l0)), none, some (.inl l2), some (.inl l3), none, some (.inl l5)]) (h : X_X12_changeAll_70 G Qx K10 K41 l0 l2 l3 l5 k0 k1 σ) : W p l e rm_X12_changeAll s m args below meth c H locs 0 0 (MQ below (va_Qi Qx (fun u t => Pw G D tc b0 u t) (AA b0)) args s 0 0 (AA b0)) (F0 m 70 ls [.int k1, .int k0]) := by
  have hx := C.1
  have hb := C.2.1
  unfold X_X12_changeAll_70 at h
  refine lv_iadd hx hb dX12_changeAll_70 ?_
  refine x_istore C hl dX12_changeAll_71 (by decide) rfl (fun ls hl => ?_)
  refine x_iinc C hl dX12_changeAll_73 rfl (v := (1 : Int32)) (by decide) (by decide) rfl (fun ls hl => ?_)
  refine lv_goto hx hb dX12_changeAll_76 (tgt := 41) rfl ?_
  exact hK41 _ _ _ _ _ _ hS hW (hl.keep [true, false, true, true, true, true] rfl) h
set_option maxRecDepth 20000 in
set_option maxHeartbeats 4000000 in
theorem t_X12_changeAll_106 {p : Program} {l : Launch} {e : Env} {s : State} {m : MethodId} {args : Array Value} {below : List Frame} {meth : Method} {c : Code} {H : Heap} {locs : List Loc} {D : va_G} {tc : Nat → ClassId} {b0 : Nat} {ls : Array Slot} {G : Lay} {Qx : Int32 → Mem → Prop} {l0 : Nat} {l2 : Int32}  {K10 : Int32 × Mem → Prop} {σ : Mem} (C : Cx p s m args meth c cX12_changeAll RX12 6 D tc b0) (hr : meth.sig.returnType = (some FieldType.boolean)) (hK10 : ∀ (x2 : Int32) (σ : Mem) (H : Heap) (locs : List Loc) (ls : Array Slot), va_S (AA b0) s.heap H locs → Wd G D tc b0 σ H → hL b0 ls 6 [some (.inr (.inr l0)), none, some (.inl x2), none, none, none] → K10 (x2, σ) → W p l e rm_X12_changeAll s m args below meth c H locs 0 0 (MQ below (va_Qi Qx (fun u t => Pw G D tc b0 u t) (AA b0)) args s 0 0 (AA b0)) (F0 m 10 ls [])) (hS : va_S (AA b0) s.heap H locs) (hW : Wd G D tc b0 σ H) (hl : hL b0 ls 6 [some (.inr (.inr l0)), none, some (.inl l2), none, none, none]) (h : X_X12_changeAll_106 G Qx K10 l0 l2  σ) : W p l e rm_X12_changeAll s m args below meth c H locs 0 0 (MQ below (va_Qi Qx (fun u t => Pw G D tc b0 u t) (AA b0)) args s 0 0 (AA b0)) (F0 m 106 ls []) := by
  have hx := C.1
  have hb := C.2.1
  unfold X_X12_changeAll_106 at h
  refine x_iinc C hl dX12_changeAll_106 rfl (v := (1 : Int32)) (by decide) (by decide) rfl (fun ls hl => ?_)
  refine lv_goto hx hb dX12_changeAll_109 (tgt := 10) rfl ?_
  exact hK10 _ _ _ _ _ hS hW (hl.keep [true, false, true, false, false, false] rfl) h
set_option maxRecDepth 20000 in
set_option maxHeartbeats 4000000 in
theorem t_X12_changeAll_89 {p : Program} {l : Launch} {e : Env} {s : State} {m : MethodId} {args : Array Value} {below : List Frame} {meth : Method} {c : Code} {H : Heap} {locs : List Loc} {D : va_G} {tc : Nat → ClassId} {b0 : Nat} {ls : Array Slot} {G : Lay} {Qx : Int32 → Mem → Prop} {l0 : Nat} {l2 : Int32} {l3 : Int32} {l4 : Int32}  {K10 : Int32 × Mem → Prop} {σ : Mem} (C : Cx p s m args meth c cX12_changeAll RX12 6 D tc b0) (hr : meth.sig.returnType = (some FieldType.boolean)) (hK10 : ∀ (x2 : Int32) (σ : Mem) (H : Heap) (locs : List Loc) (ls : Array Slot), va_S (AA b0) s.heap H locs → Wd G D tc b0 σ H → hL b0 ls 6 [some (.inr (.inr l0)), none, some (.inl x2), none, none, none] → K10 (x2, σ) → W p l e rm_X12_changeAll s m args below meth c H locs 0 0 (MQ below (va_Qi Qx (fun u t => Pw G D tc b0 u t) (AA b0)) args s 0 0 (AA b0)) (F0 m 10 ls [])) (hS : va_S (AA b0) s.heap H locs) (hW : Wd G D tc b0 σ H) (hl : hL b0 ls 6 [some (.inr (.inr l0)), none, some (.inl l2), some (.inl l3), some (.inl l4), none]) (h : X_X12_changeAll_89 G Qx K10 l0 l2 l3 l4  σ) : W p l e rm_X12_changeAll s m args below meth c H locs 0 0 (MQ below (va_Qi Qx (fun u t => Pw G D tc b0 u t) (AA b0)) args s 0 0 (AA b0)) (F0 m 89 ls []) := by
  have hx := C.1
  have hb := C.2.1
  unfold X_X12_changeAll_89 at h
  refine x_iload C hl dX12_changeAll_89 rfl ?_
  refine lv_if_le hx hb dX12_changeAll_91 (tgt := 106) rfl (fun hc => ?_) (fun hc => ?_)
  · replace h := h.1 hc
    exact t_X12_changeAll_106 C hr hK10 hS hW (hl.keep [true, false, true, false, false, false] rfl) h
  · replace h := h.2 hc
    refine x_aload_n C hl dX12_changeAll_94 rfl ?_
    refine x_iload_n C hl dX12_changeAll_95 rfl ?_
    refine x_iload C hl dX12_changeAll_96 rfl ?_
    have t1 := h.1
    replace h := h.2
    refine y_i (x_run (As := [.int l3, .int l4]) C hW hS (T_X12_change l l0 l3 l4 σ _ h) t1 kl_12 (CW.of yv_X12_change ml_X12_465) ⟨rfl, rfl, ⟨by decide, by decide⟩, by decide, by decide⟩ rfl hl.1 rfl (by decide) dX12_changeAll_98) hS (fun w3 s2 H locs h hW hS => ?_)
    refine lv_if_ne hx hb dX12_changeAll_101 (tgt := 106) rfl (fun hc => ?_) (fun hc => ?_)
    · replace h := h.2 hc
      exact t_X12_changeAll_106 C hr hK10 hS hW (hl.keep [true, false, true, false, false, false] rfl) h
    · replace h := h.1 hc
      refine lv_iconst (v := (0 : Int32)) hx hb dX12_changeAll_104 (by decide) ?_
      exact r_z C hr hW hS h.1 h.2 dX12_changeAll_105
set_option maxRecDepth 20000 in
set_option maxHeartbeats 4000000 in
theorem t_X12_changeAll_41_n {p : Program} {l : Launch} {e : Env} {s : State} {m : MethodId} {args : Array Value} {below : List Frame} {meth : Method} {c : Code} {D : va_G} {tc : Nat → ClassId} {b0 : Nat} {G : Lay} {Qx : Int32 → Mem → Prop} {l0 : Nat} {l2 : Int32} {l3 : Int32} {K10 : Int32 × Mem → Prop} (C : Cx p s m args meth c cX12_changeAll RX12 6 D tc b0) (hr : meth.sig.returnType = (some FieldType.boolean)) (hK10 : ∀ (x2 : Int32) (σ : Mem) (H : Heap) (locs : List Loc) (ls : Array Slot), va_S (AA b0) s.heap H locs → Wd G D tc b0 σ H → hL b0 ls 6 [some (.inr (.inr l0)), none, some (.inl x2), none, none, none] → K10 (x2, σ) → W p l e rm_X12_changeAll s m args below meth c H locs 0 0 (MQ below (va_Qi Qx (fun u t => Pw G D tc b0 u t) (AA b0)) args s 0 0 (AA b0)) (F0 m 10 ls [])) (n : Nat) : ∀ (l4 : Int32) (l5 : Int32) (σ : Mem) (H : Heap) (locs : List Loc) (ls : Array Slot), va_S (AA b0) s.heap H locs → Wd G D tc b0 σ H → hL b0 ls 6 [some (.inr (.inr l0)), none, some (.inl l2), some (.inl l3), some (.inl l4), some (.inl l5)] → Lp (X_X12_changeAll_41_s G Qx K10 l0 l2 l3) n (l4, l5, σ) → W p l e rm_X12_changeAll s m args below meth c H locs 0 0 (MQ below (va_Qi Qx (fun u t => Pw G D tc b0 u t) (AA b0)) args s 0 0 (AA b0)) (F0 m 41 ls []) := by
  have hx := C.1
  have hb := C.2.1
  induction n with
  | zero => intro l4 l5 σ H locs ls hS hW hl h; exact False.elim h
  | succ n hK41 =>
    intro l4 l5 σ H locs ls hS hW hl h
    replace h : X_X12_changeAll_41_s G Qx K10 l0 l2 l3 (Lp (X_X12_changeAll_41_s G Qx K10 l0 l2 l3) n) (l4, l5, σ) := h
    unfold X_X12_changeAll_41_s at h
    refine x_iload C hl dX12_changeAll_41 rfl ?_
    refine lv_bipush (v := (16 : Int32)) hx hb dX12_changeAll_43 (by decide) ?_
    refine lv_icmp_ge hx hb dX12_changeAll_45 (tgt := 79) rfl (fun hc => ?_) (fun hc => ?_)
    · replace h := h.1 hc
      refine lv_goto hx hb dX12_changeAll_79 (tgt := 89) rfl ?_
      exact t_X12_changeAll_89 C hr hK10 hS hW (hl.keep [true, false, true, true, true, false] rfl) h
    · replace h := h.2 hc
      refine x_iload C hl dX12_changeAll_48 rfl ?_
      refine x_aload_n C hl dX12_changeAll_50 rfl ?_
      have t1 := h.1
      replace h := h.2
      refine x_get C hW (t := 12) (k := 77) t1 kl_12 (by decide) fl_X12_187 (v := rv b0 (mR σ l0 77)) rfl dX12_changeAll_51 ?_
      refine lv_bipush (v := (16 : Int32)) hx hb dX12_changeAll_54 (by decide) ?_
      refine x_iload_n C hl dX12_changeAll_56 rfl ?_
      refine lv_imul hx hb dX12_changeAll_57 ?_
      refine x_iload C hl dX12_changeAll_58 rfl ?_
      refine lv_iadd hx hb dX12_changeAll_60 ?_
      have t2 := h.1
      replace h := h.2
      have v3 := h.1
      replace h := h.2
      refine x_zald C hW t2 v3 dX12_changeAll_61 ?_
      refine lv_if_eq hx hb dX12_changeAll_62 (tgt := 69) rfl (fun hc => ?_) (fun hc => ?_)
      · replace h := h.1 hc
        refine lv_iconst (v := (0 : Int32)) hx hb dX12_changeAll_69 (by decide) ?_
        exact t_X12_changeAll_70 C hr hK10 hK41 hS hW (hl.keep [true, false, true, true, false, true] rfl) h
      · replace h := h.2 hc
        refine lv_iconst (v := (1 : Int32)) hx hb dX12_changeAll_65 (by decide) ?_
        refine lv_goto hx hb dX12_changeAll_66 (tgt := 70) rfl ?_
        exact t_X12_changeAll_70 C hr hK10 hK41 hS hW (hl.keep [true, false, true, true, false, true] rfl) h
set_option maxRecDepth 20000 in
set_option maxHeartbeats 4000000 in
theorem t_X12_changeAll_41 {p : Program} {l : Launch} {e : Env} {s : State} {m : MethodId} {args : Array Value} {below : List Frame} {meth : Method} {c : Code} {H : Heap} {locs : List Loc} {D : va_G} {tc : Nat → ClassId} {b0 : Nat} {ls : Array Slot} {G : Lay} {Qx : Int32 → Mem → Prop} {l0 : Nat} {l2 : Int32} {l3 : Int32} {l4 : Int32} {l5 : Int32}  {K10 : Int32 × Mem → Prop} {σ : Mem} (C : Cx p s m args meth c cX12_changeAll RX12 6 D tc b0) (hr : meth.sig.returnType = (some FieldType.boolean)) (hK10 : ∀ (x2 : Int32) (σ : Mem) (H : Heap) (locs : List Loc) (ls : Array Slot), va_S (AA b0) s.heap H locs → Wd G D tc b0 σ H → hL b0 ls 6 [some (.inr (.inr l0)), none, some (.inl x2), none, none, none] → K10 (x2, σ) → W p l e rm_X12_changeAll s m args below meth c H locs 0 0 (MQ below (va_Qi Qx (fun u t => Pw G D tc b0 u t) (AA b0)) args s 0 0 (AA b0)) (F0 m 10 ls [])) (hS : va_S (AA b0) s.heap H locs) (hW : Wd G D tc b0 σ H) (hl : hL b0 ls 6 [some (.inr (.inr l0)), none, some (.inl l2), some (.inl l3), some (.inl l4), some (.inl l5)]) (h : X_X12_changeAll_41 G Qx K10 l0 l2 l3 l4 l5 σ) : W p l e rm_X12_changeAll s m args below meth c H locs 0 0 (MQ below (va_Qi Qx (fun u t => Pw G D tc b0 u t) (AA b0)) args s 0 0 (AA b0)) (F0 m 41 ls []) := by
  obtain ⟨n, h⟩ := h
  exact t_X12_changeAll_41_n C hr hK10 n l4 l5 σ H locs ls hS hW hl h
set_option maxRecDepth 20000 in
set_option maxHeartbeats 4000000 in
theorem t_X12_changeAll_10_n {p : Program} {l : Launch} {e : Env} {s : State} {m : MethodId} {args : Array Value} {below : List Frame} {meth : Method} {c : Code} {D : va_G} {tc : Nat → ClassId} {b0 : Nat} {G : Lay} {Qx : Int32 → Mem → Prop} {l0 : Nat} (C : Cx p s m args meth c cX12_changeAll RX12 6 D tc b0) (hr : meth.sig.returnType = (some FieldType.boolean)) (n : Nat) : ∀ (l2 : Int32) (σ : Mem) (H : Heap) (locs : List Loc) (ls : Array Slot), va_S (AA b0) s.heap H locs → Wd G D tc b0 σ H → hL b0 ls 6 [some (.inr (.inr l0)), none, some (.inl l2), none, none, none] → Lp (X_X12_changeAll_10_s G Qx l0) n (l2, σ) → W p l e rm_X12_changeAll s m args below meth c H locs 0 0 (MQ below (va_Qi Qx (fun u t => Pw G D tc b0 u t) (AA b0)) args s 0 0 (AA b0)) (F0 m 10 ls []) := by
  have hx := C.1
  have hb := C.2.1
  induction n with
  | zero => intro l2 σ H locs ls hS hW hl h; exact False.elim h
  | succ n hK10 =>
    intro l2 σ H locs ls hS hW hl h
    replace h : X_X12_changeAll_10_s G Qx l0 (Lp (X_X12_changeAll_10_s G Qx l0) n) (l2, σ) := h
    unfold X_X12_changeAll_10_s at h
    refine x_iload_n C hl dX12_changeAll_10 rfl ?_
    refine x_aload_n C hl dX12_changeAll_11 rfl ?_
    have t1 := h.1
    replace h := h.2
    refine x_get C hW (t := 12) (k := 75) t1 kl_12 (by decide) fl_X12_440 (v := .int (mI σ l0 75)) rfl dX12_changeAll_12 ?_
    refine lv_icmp_ge hx hb dX12_changeAll_15 (tgt := 112) rfl (fun hc => ?_) (fun hc => ?_)
    · replace h := h.1 hc
      refine lv_iconst (v := (1 : Int32)) hx hb dX12_changeAll_112 (by decide) ?_
      exact r_z C hr hW hS h.1 h.2 dX12_changeAll_113
    · replace h := h.2 hc
      refine x_aload_n C hl dX12_changeAll_18 rfl ?_
      refine x_get C hW (t := 12) (k := 74) t1 kl_12 (by decide) fl_X12_181 (v := rv b0 (mR σ l0 74)) rfl dX12_changeAll_19 ?_
      refine x_iload_n C hl dX12_changeAll_22 rfl ?_
      have t2 := h.1
      replace h := h.2
      have v3 := h.1
      replace h := h.2
      refine x_iald C hW t2 v3 dX12_changeAll_23 ?_
      refine x_istore_n C hl dX12_changeAll_24 (by decide) rfl (fun ls hl => ?_)
      refine lv_iconst (v := (0 : Int32)) hx hb dX12_changeAll_25 (by decide) ?_
      refine x_istore C hl dX12_changeAll_26 (by decide) rfl (fun ls hl => ?_)
      refine x_aload_n C hl dX12_changeAll_28 rfl ?_
      refine x_get C hW (t := 12) (k := 42) t1 kl_12 (by decide) fl_X12_120 (v := rv b0 (mR σ l0 42)) rfl dX12_changeAll_29 ?_
      refine x_iload_n C hl dX12_changeAll_32 rfl ?_
      have t4 := h.1
      replace h := h.2
      have v5 := h.1
      replace h := h.2
      refine x_iald C hW t4 v5 dX12_changeAll_33 ?_
      refine lv_iconst (v := (2 : Int32)) hx hb dX12_changeAll_34 (by decide) ?_
      refine lv_icmp_ne hx hb dX12_changeAll_35 (tgt := 82) rfl (fun hc => ?_) (fun hc => ?_)
      · replace h := h.2 hc
        refine x_aload_n C hl dX12_changeAll_82 rfl ?_
        refine x_iload_n C hl dX12_changeAll_83 rfl ?_
        refine y_i (x_run (As := [.int (mI σ (mR σ l0 74) l2.toNatClampNeg)]) C hW hS (T_X12_changed l l0 (mI σ (mR σ l0 74) l2.toNatClampNeg) σ _ h) t1 kl_12 (CW.of yv_X12_changed ml_X12_462) ⟨rfl, rfl, ⟨by decide, by decide⟩, by decide, by decide⟩ rfl hl.1 rfl (by decide) dX12_changeAll_84) hS (fun w7 s6 H locs h hW hS => ?_)
        refine x_istore C hl dX12_changeAll_87 (by decide) rfl (fun ls hl => ?_)
        exact t_X12_changeAll_89 C hr hK10 hS hW (hl.keep [true, false, true, true, true, false] rfl) h
      · replace h := h.1 hc
        refine lv_iconst (v := (0 : Int32)) hx hb dX12_changeAll_38 (by decide) ?_
        refine x_istore C hl dX12_changeAll_39 (by decide) rfl (fun ls hl => ?_)
        exact t_X12_changeAll_41 C hr hK10 hS hW (hl.keep [true, false, true, true, true, true] rfl) h
set_option maxRecDepth 20000 in
set_option maxHeartbeats 4000000 in
theorem t_X12_changeAll_10 {p : Program} {l : Launch} {e : Env} {s : State} {m : MethodId} {args : Array Value} {below : List Frame} {meth : Method} {c : Code} {H : Heap} {locs : List Loc} {D : va_G} {tc : Nat → ClassId} {b0 : Nat} {ls : Array Slot} {G : Lay} {Qx : Int32 → Mem → Prop} {l0 : Nat} {l2 : Int32}  {σ : Mem} (C : Cx p s m args meth c cX12_changeAll RX12 6 D tc b0) (hr : meth.sig.returnType = (some FieldType.boolean)) (hS : va_S (AA b0) s.heap H locs) (hW : Wd G D tc b0 σ H) (hl : hL b0 ls 6 [some (.inr (.inr l0)), none, some (.inl l2), none, none, none]) (h : X_X12_changeAll_10 G Qx l0 l2 σ) : W p l e rm_X12_changeAll s m args below meth c H locs 0 0 (MQ below (va_Qi Qx (fun u t => Pw G D tc b0 u t) (AA b0)) args s 0 0 (AA b0)) (F0 m 10 ls []) := by
  obtain ⟨n, h⟩ := h
  exact t_X12_changeAll_10_n C hr n l2 σ H locs ls hS hW hl h
set_option maxRecDepth 20000 in
set_option maxHeartbeats 4000000 in
theorem t_X12_changeAll_0 {p : Program} {l : Launch} {e : Env} {s : State} {m : MethodId} {args : Array Value} {below : List Frame} {meth : Method} {c : Code} {H : Heap} {locs : List Loc} {D : va_G} {tc : Nat → ClassId} {b0 : Nat} {ls : Array Slot} {G : Lay} {Qx : Int32 → Mem → Prop} {l0 : Nat} {l1 : Int32}  {σ : Mem} (C : Cx p s m args meth c cX12_changeAll RX12 6 D tc b0) (hr : meth.sig.returnType = (some FieldType.boolean)) (hS : va_S (AA b0) s.heap H locs) (hW : Wd G D tc b0 σ H) (hl : hL b0 ls 6 [some (.inr (.inr l0)), some (.inl l1), none, none, none, none]) (h : X_X12_changeAll_0 G Qx l0 l1  σ) : W p l e rm_X12_changeAll s m args below meth c H locs 0 0 (MQ below (va_Qi Qx (fun u t => Pw G D tc b0 u t) (AA b0)) args s 0 0 (AA b0)) (F0 m 0 ls []) := by
  have hx := C.1
  have hb := C.2.1
  unfold X_X12_changeAll_0 at h
  refine x_aload_n C hl dX12_changeAll_0 rfl ?_
  refine x_iload_n C hl dX12_changeAll_1 rfl ?_
  refine lv_iconst (v := (1 : Int32)) hx hb dX12_changeAll_2 (by decide) ?_
  refine lv_iconst (v := (1 : Int32)) hx hb dX12_changeAll_3 (by decide) ?_
  refine lv_iconst (v := (0 : Int32)) hx hb dX12_changeAll_4 (by decide) ?_
  have t1 := h.1
  replace h := h.2
  refine y_v (x_run (As := [.int l1, .int (1 : Int32), .int (1 : Int32), .int (0 : Int32)]) C hW hS (T_X12_inOrder l l0 l1 (1 : Int32) (1 : Int32) (0 : Int32) σ _ h) t1 kl_12 (CW.of yv_X12_inOrder ml_X12_446) ⟨rfl, rfl, ⟨by decide, by decide⟩, by decide, by decide⟩ rfl hl.1 rfl (by decide) dX12_changeAll_5) hS (fun s2 H locs h hW hS => ?_)
  refine lv_iconst (v := (0 : Int32)) hx hb dX12_changeAll_8 (by decide) ?_
  refine x_istore_n C hl dX12_changeAll_9 (by decide) rfl (fun ls hl => ?_)
  exact t_X12_changeAll_10 C hr hS hW (hl.keep [true, false, true, false, false, false] rfl) h
theorem T_X12_changeAll (l : Launch) {G : Lay} {D : va_G} {tc : Nat → ClassId} {b0 : Nat} (l0 : Nat) (l1 : Int32) (σ : Mem) (Qx : Int32 → Mem → Prop) (h : X_X12_changeAll G Qx l0 l1 σ) : MI l yX12_changeAll cX12_changeAll 6 ((some FieldType.boolean)) rm_X12_changeAll G D tc b0 [rv b0 l0, .int l1] σ Qx :=
  x_entry (y := yX12_changeAll) [.inr (.inr l0), .inl l1] 4 (by decide) (Nat.le_of_ble_eq_true rfl) (fun p e s m args below meth c ls C hr hW hl => t_X12_changeAll_0 C hr va_S.rf hW (hl.keep [true, true, false, false, false, false] rfl) h)
/-! X12_goRow -/
set_option maxRecDepth 20000 in
set_option maxHeartbeats 4000000 in
theorem t_X12_goRow_78_n {p : Program} {l : Launch} {e : Env} {s : State} {m : MethodId} {args : Array Value} {below : List Frame} {meth : Method} {c : Code} {D : va_G} {tc : Nat → ClassId} {b0 : Nat} {G : Lay} {Qx : Mem → Prop} {l0 : Nat} {l2 : Int32} {K12 : Int32 × Mem → Prop} (C : Cx p s m args meth c cX12_goRow RX12 4 D tc b0) (hr : meth.sig.returnType = (none : Option FieldType)) (hK12 : ∀ (x2 : Int32) (σ : Mem) (H : Heap) (locs : List Loc) (ls : Array Slot), va_S (AA b0) s.heap H locs → Wd G D tc b0 σ H → hL b0 ls 4 [some (.inr (.inr l0)), none, some (.inl x2), none] → K12 (x2, σ) → W p l e rm_X12_goRow s m args below meth c H locs 0 0 (MQ below (va_Qv Qx (fun u t => Pw G D tc b0 u t) (AA b0)) args s 0 0 (AA b0)) (F0 m 12 ls [])) (n : Nat) : ∀ (l3 : Int32) (σ : Mem) (H : Heap) (locs : List Loc) (ls : Array Slot), va_S (AA b0) s.heap H locs → Wd G D tc b0 σ H → hL b0 ls 4 [some (.inr (.inr l0)), none, some (.inl l2), some (.inl l3)] → Lp (X_X12_goRow_78_s G Qx K12 l0 l2) n (l3, σ) → W p l e rm_X12_goRow s m args below meth c H locs 0 0 (MQ below (va_Qv Qx (fun u t => Pw G D tc b0 u t) (AA b0)) args s 0 0 (AA b0)) (F0 m 78 ls []) := by
  have hx := C.1
  have hb := C.2.1
  induction n with
  | zero => intro l3 σ H locs ls hS hW hl h; exact False.elim h
  | succ n hK78 =>
    intro l3 σ H locs ls hS hW hl h
    replace h : X_X12_goRow_78_s G Qx K12 l0 l2 (Lp (X_X12_goRow_78_s G Qx K12 l0 l2) n) (l3, σ) := h
    unfold X_X12_goRow_78_s at h
    refine x_iload_n C hl dX12_goRow_78 rfl ?_
    refine lv_bipush (v := (16 : Int32)) hx hb dX12_goRow_79 (by decide) ?_
    refine lv_icmp_ge hx hb dX12_goRow_81 (tgt := 115) rfl (fun hc => ?_) (fun hc => ?_)
    · replace h := h.1 hc
      refine x_iinc C hl dX12_goRow_115 rfl (v := (1 : Int32)) (by decide) (by decide) rfl (fun ls hl => ?_)
      refine lv_goto hx hb dX12_goRow_118 (tgt := 12) rfl ?_
      exact hK12 _ _ _ _ _ hS hW (hl.keep [true, false, true, false] rfl) h
    · replace h := h.2 hc
      refine x_aload_n C hl dX12_goRow_84 rfl ?_
      have t1 := h.1
      replace h := h.2
      refine x_get C hW (t := 12) (k := 31) t1 kl_12 (by decide) fl_X12_89 (v := rv b0 (mR σ l0 31)) rfl dX12_goRow_85 ?_
      refine lv_bipush (v := (16 : Int32)) hx hb dX12_goRow_88 (by decide) ?_
      refine x_iload_n C hl dX12_goRow_90 rfl ?_
      refine lv_imul hx hb dX12_goRow_91 ?_
      refine x_iload_n C hl dX12_goRow_92 rfl ?_
      refine lv_iadd hx hb dX12_goRow_93 ?_
      refine x_aload_n C hl dX12_goRow_94 rfl ?_
      refine x_get C hW (t := 12) (k := 31) t1 kl_12 (by decide) fl_X12_89 (v := rv b0 (mR σ l0 31)) rfl dX12_goRow_95 ?_
      refine lv_bipush (v := (16 : Int32)) hx hb dX12_goRow_98 (by decide) ?_
      refine x_iload_n C hl dX12_goRow_100 rfl ?_
      refine lv_imul hx hb dX12_goRow_101 ?_
      refine lv_bipush (v := (16 : Int32)) hx hb dX12_goRow_102 (by decide) ?_
      refine lv_iadd hx hb dX12_goRow_104 ?_
      refine x_iload_n C hl dX12_goRow_105 rfl ?_
      refine lv_iadd hx hb dX12_goRow_106 ?_
      have t2 := h.1
      replace h := h.2
      have v3 := h.1
      replace h := h.2
      refine x_iald C hW t2 v3 dX12_goRow_107 ?_
      have v4 := h.1
      replace h := h.2
      refine x_iast C hW hS t2 v4 dX12_goRow_108 (fun H locs hW hS => ?_)
      obtain ⟨s5, e_s5⟩ : ∃ z : Mem, z = (sI σ (mR σ l0 31) (((16 : Int32) * l2) + l3).toNatClampNeg (mI σ (mR σ l0 31) ((((16 : Int32) * l2) + (16 : Int32)) + l3).toNatClampNeg)) := ⟨_, rfl⟩
      replace h := h s5 e_s5
      replace hW : Wd G D tc b0 s5 H := by rw [e_s5]; exact hW
      refine x_iinc C hl dX12_goRow_109 rfl (v := (1 : Int32)) (by decide) (by decide) rfl (fun ls hl => ?_)
      refine lv_goto hx hb dX12_goRow_112 (tgt := 78) rfl ?_
      exact hK78 _ _ _ _ _ hS hW (hl.keep [true, false, true, true] rfl) h
set_option maxRecDepth 20000 in
set_option maxHeartbeats 4000000 in
theorem t_X12_goRow_78 {p : Program} {l : Launch} {e : Env} {s : State} {m : MethodId} {args : Array Value} {below : List Frame} {meth : Method} {c : Code} {H : Heap} {locs : List Loc} {D : va_G} {tc : Nat → ClassId} {b0 : Nat} {ls : Array Slot} {G : Lay} {Qx : Mem → Prop} {l0 : Nat} {l2 : Int32} {l3 : Int32}  {K12 : Int32 × Mem → Prop} {σ : Mem} (C : Cx p s m args meth c cX12_goRow RX12 4 D tc b0) (hr : meth.sig.returnType = (none : Option FieldType)) (hK12 : ∀ (x2 : Int32) (σ : Mem) (H : Heap) (locs : List Loc) (ls : Array Slot), va_S (AA b0) s.heap H locs → Wd G D tc b0 σ H → hL b0 ls 4 [some (.inr (.inr l0)), none, some (.inl x2), none] → K12 (x2, σ) → W p l e rm_X12_goRow s m args below meth c H locs 0 0 (MQ below (va_Qv Qx (fun u t => Pw G D tc b0 u t) (AA b0)) args s 0 0 (AA b0)) (F0 m 12 ls [])) (hS : va_S (AA b0) s.heap H locs) (hW : Wd G D tc b0 σ H) (hl : hL b0 ls 4 [some (.inr (.inr l0)), none, some (.inl l2), some (.inl l3)]) (h : X_X12_goRow_78 G Qx K12 l0 l2 l3 σ) : W p l e rm_X12_goRow s m args below meth c H locs 0 0 (MQ below (va_Qv Qx (fun u t => Pw G D tc b0 u t) (AA b0)) args s 0 0 (AA b0)) (F0 m 78 ls []) := by
  obtain ⟨n, h⟩ := h
  exact t_X12_goRow_78_n C hr hK12 n l3 σ H locs ls hS hW hl h
set_option maxRecDepth 20000 in
set_option maxHeartbeats 4000000 in
theorem t_X12_goRow_12_n {p : Program} {l : Launch} {e : Env} {s : State} {m : MethodId} {args : Array Value} {below : List Frame} {meth : Method} {c : Code} {D : va_G} {tc : Nat → ClassId} {b0 : Nat} {G : Lay} {Qx : Mem → Prop} {l0 : Nat} (C : Cx p s m args meth c cX12_goRow RX12 4 D tc b0) (hr : meth.sig.returnType = (none : Option FieldType)) (n : Nat) : ∀ (l2 : Int32) (σ : Mem) (H : Heap) (locs : List Loc) (ls : Array Slot), va_S (AA b0) s.heap H locs → Wd G D tc b0 σ H → hL b0 ls 4 [some (.inr (.inr l0)), none, some (.inl l2), none] → Lp (X_X12_goRow_12_s G Qx l0) n (l2, σ) → W p l e rm_X12_goRow s m args below meth c H locs 0 0 (MQ below (va_Qv Qx (fun u t => Pw G D tc b0 u t) (AA b0)) args s 0 0 (AA b0)) (F0 m 12 ls []) := by
  have hx := C.1
  have hb := C.2.1
  induction n with
  | zero => intro l2 σ H locs ls hS hW hl h; exact False.elim h
  | succ n hK12 =>
    intro l2 σ H locs ls hS hW hl h
    replace h : X_X12_goRow_12_s G Qx l0 (Lp (X_X12_goRow_12_s G Qx l0) n) (l2, σ) := h
    unfold X_X12_goRow_12_s at h
    refine x_iload_n C hl dX12_goRow_12 rfl ?_
    refine x_aload_n C hl dX12_goRow_13 rfl ?_
    have t1 := h.1
    replace h := h.2
    refine x_get C hW (t := 12) (k := 26) t1 kl_12 (by decide) fl_X12_344 (v := .int (mI σ l0 26)) rfl dX12_goRow_14 ?_
    refine lv_icmp_ge hx hb dX12_goRow_17 (tgt := 121) rfl (fun hc => ?_) (fun hc => ?_)
    · replace h := h.1 hc
      exact r_v C hr hW hS h dX12_goRow_121
    · replace h := h.2 hc
      refine x_aload_n C hl dX12_goRow_20 rfl ?_
      refine x_get C hW (t := 12) (k := 27) t1 kl_12 (by decide) fl_X12_77 (v := rv b0 (mR σ l0 27)) rfl dX12_goRow_21 ?_
      refine x_iload_n C hl dX12_goRow_24 rfl ?_
      refine x_aload_n C hl dX12_goRow_25 rfl ?_
      refine x_get C hW (t := 12) (k := 27) t1 kl_12 (by decide) fl_X12_77 (v := rv b0 (mR σ l0 27)) rfl dX12_goRow_26 ?_
      refine x_iload_n C hl dX12_goRow_29 rfl ?_
      refine lv_iconst (v := (1 : Int32)) hx hb dX12_goRow_30 (by decide) ?_
      refine lv_iadd hx hb dX12_goRow_31 ?_
      have t2 := h.1
      replace h := h.2
      have v3 := h.1
      replace h := h.2
      refine x_iald C hW t2 v3 dX12_goRow_32 ?_
      have v4 := h.1
      replace h := h.2
      refine x_iast C hW hS t2 v4 dX12_goRow_33 (fun H locs hW hS => ?_)
      obtain ⟨s5, e_s5⟩ : ∃ z : Mem, z = (sI σ (mR σ l0 27) l2.toNatClampNeg (mI σ (mR σ l0 27) (l2 + (1 : Int32)).toNatClampNeg)) := ⟨_, rfl⟩
      replace h := h s5 e_s5
      replace hW : Wd G D tc b0 s5 H := by rw [e_s5]; exact hW
      refine x_aload_n C hl dX12_goRow_34 rfl ?_
      refine x_get C hW (t := 12) (k := 28) t1 kl_12 (by decide) fl_X12_80 (v := rv b0 (mR s5 l0 28)) rfl dX12_goRow_35 ?_
      refine x_iload_n C hl dX12_goRow_38 rfl ?_
      refine x_aload_n C hl dX12_goRow_39 rfl ?_
      refine x_get C hW (t := 12) (k := 28) t1 kl_12 (by decide) fl_X12_80 (v := rv b0 (mR s5 l0 28)) rfl dX12_goRow_40 ?_
      refine x_iload_n C hl dX12_goRow_43 rfl ?_
      refine lv_iconst (v := (1 : Int32)) hx hb dX12_goRow_44 (by decide) ?_
      refine lv_iadd hx hb dX12_goRow_45 ?_
      have t6 := h.1
      replace h := h.2
      have v7 := h.1
      replace h := h.2
      refine x_iald C hW t6 v7 dX12_goRow_46 ?_
      have v8 := h.1
      replace h := h.2
      refine x_iast C hW hS t6 v8 dX12_goRow_47 (fun H locs hW hS => ?_)
      obtain ⟨s9, e_s9⟩ : ∃ z : Mem, z = (sI s5 (mR s5 l0 28) l2.toNatClampNeg (mI s5 (mR s5 l0 28) (l2 + (1 : Int32)).toNatClampNeg)) := ⟨_, rfl⟩
      replace h := h s9 e_s9
      replace hW : Wd G D tc b0 s9 H := by rw [e_s9]; exact hW
      refine x_aload_n C hl dX12_goRow_48 rfl ?_
      refine x_get C hW (t := 12) (k := 29) t1 kl_12 (by decide) fl_X12_83 (v := rv b0 (mR s9 l0 29)) rfl dX12_goRow_49 ?_
      refine x_iload_n C hl dX12_goRow_52 rfl ?_
      refine x_aload_n C hl dX12_goRow_53 rfl ?_
      refine x_get C hW (t := 12) (k := 29) t1 kl_12 (by decide) fl_X12_83 (v := rv b0 (mR s9 l0 29)) rfl dX12_goRow_54 ?_
      refine x_iload_n C hl dX12_goRow_57 rfl ?_
      refine lv_iconst (v := (1 : Int32)) hx hb dX12_goRow_58 (by decide) ?_
      refine lv_iadd hx hb dX12_goRow_59 ?_
      have t10 := h.1
      replace h := h.2
      have v11 := h.1
      replace h := h.2
      refine x_iald C hW t10 v11 dX12_goRow_60 ?_
      have v12 := h.1
      replace h := h.2
      refine x_iast C hW hS t10 v12 dX12_goRow_61 (fun H locs hW hS => ?_)
      obtain ⟨s13, e_s13⟩ : ∃ z : Mem, z = (sI s9 (mR s9 l0 29) l2.toNatClampNeg (mI s9 (mR s9 l0 29) (l2 + (1 : Int32)).toNatClampNeg)) := ⟨_, rfl⟩
      replace h := h s13 e_s13
      replace hW : Wd G D tc b0 s13 H := by rw [e_s13]; exact hW
      refine x_aload_n C hl dX12_goRow_62 rfl ?_
      refine x_get C hW (t := 12) (k := 30) t1 kl_12 (by decide) fl_X12_86 (v := rv b0 (mR s13 l0 30)) rfl dX12_goRow_63 ?_
      refine x_iload_n C hl dX12_goRow_66 rfl ?_
      refine x_aload_n C hl dX12_goRow_67 rfl ?_
      refine x_get C hW (t := 12) (k := 30) t1 kl_12 (by decide) fl_X12_86 (v := rv b0 (mR s13 l0 30)) rfl dX12_goRow_68 ?_
      refine x_iload_n C hl dX12_goRow_71 rfl ?_
      refine lv_iconst (v := (1 : Int32)) hx hb dX12_goRow_72 (by decide) ?_
      refine lv_iadd hx hb dX12_goRow_73 ?_
      have t14 := h.1
      replace h := h.2
      have v15 := h.1
      replace h := h.2
      refine x_iald C hW t14 v15 dX12_goRow_74 ?_
      have v16 := h.1
      replace h := h.2
      refine x_iast C hW hS t14 v16 dX12_goRow_75 (fun H locs hW hS => ?_)
      obtain ⟨s17, e_s17⟩ : ∃ z : Mem, z = (sI s13 (mR s13 l0 30) l2.toNatClampNeg (mI s13 (mR s13 l0 30) (l2 + (1 : Int32)).toNatClampNeg)) := ⟨_, rfl⟩
      replace h := h s17 e_s17
      replace hW : Wd G D tc b0 s17 H := by rw [e_s17]; exact hW
      refine lv_iconst (v := (0 : Int32)) hx hb dX12_goRow_76 (by decide) ?_
      refine x_istore_n C hl dX12_goRow_77 (by decide) rfl (fun ls hl => ?_)
      exact t_X12_goRow_78 C hr hK12 hS hW (hl.keep [true, false, true, true] rfl) h
set_option maxRecDepth 20000 in
set_option maxHeartbeats 4000000 in
theorem t_X12_goRow_12 {p : Program} {l : Launch} {e : Env} {s : State} {m : MethodId} {args : Array Value} {below : List Frame} {meth : Method} {c : Code} {H : Heap} {locs : List Loc} {D : va_G} {tc : Nat → ClassId} {b0 : Nat} {ls : Array Slot} {G : Lay} {Qx : Mem → Prop} {l0 : Nat} {l2 : Int32}  {σ : Mem} (C : Cx p s m args meth c cX12_goRow RX12 4 D tc b0) (hr : meth.sig.returnType = (none : Option FieldType)) (hS : va_S (AA b0) s.heap H locs) (hW : Wd G D tc b0 σ H) (hl : hL b0 ls 4 [some (.inr (.inr l0)), none, some (.inl l2), none]) (h : X_X12_goRow_12 G Qx l0 l2 σ) : W p l e rm_X12_goRow s m args below meth c H locs 0 0 (MQ below (va_Qv Qx (fun u t => Pw G D tc b0 u t) (AA b0)) args s 0 0 (AA b0)) (F0 m 12 ls []) := by
  obtain ⟨n, h⟩ := h
  exact t_X12_goRow_12_n C hr n l2 σ H locs ls hS hW hl h
set_option maxRecDepth 20000 in
set_option maxHeartbeats 4000000 in
theorem t_X12_goRow_0 {p : Program} {l : Launch} {e : Env} {s : State} {m : MethodId} {args : Array Value} {below : List Frame} {meth : Method} {c : Code} {H : Heap} {locs : List Loc} {D : va_G} {tc : Nat → ClassId} {b0 : Nat} {ls : Array Slot} {G : Lay} {Qx : Mem → Prop} {l0 : Nat} {l1 : Int32}  {σ : Mem} (C : Cx p s m args meth c cX12_goRow RX12 4 D tc b0) (hr : meth.sig.returnType = (none : Option FieldType)) (hS : va_S (AA b0) s.heap H locs) (hW : Wd G D tc b0 σ H) (hl : hL b0 ls 4 [some (.inr (.inr l0)), some (.inl l1), none, none]) (h : X_X12_goRow_0 G Qx l0 l1  σ) : W p l e rm_X12_goRow s m args below meth c H locs 0 0 (MQ below (va_Qv Qx (fun u t => Pw G D tc b0 u t) (AA b0)) args s 0 0 (AA b0)) (F0 m 0 ls []) := by
  have hx := C.1
  have hb := C.2.1
  unfold X_X12_goRow_0 at h
  refine x_aload_n C hl dX12_goRow_0 rfl ?_
  refine lv_dup hx hb dX12_goRow_1 (rv_cat _ _) ?_
  have t1 := h.1
  replace h := h.2
  refine x_get C hW (t := 12) (k := 26) t1 kl_12 (by decide) fl_X12_344 (v := .int (mI σ l0 26)) rfl dX12_goRow_2 ?_
  refine lv_iconst (v := (1 : Int32)) hx hb dX12_goRow_5 (by decide) ?_
  refine lv_isub hx hb dX12_goRow_6 ?_
  refine x_putI C hW hS (t := 12) (k := 26) t1 kl_12 (by decide) fl_X12_344 rfl rfl rfl rfl dX12_goRow_7 (fun H locs hW hS => ?_)
  obtain ⟨s2, e_s2⟩ : ∃ z : Mem, z = (sI σ l0 26 ((mI σ l0 26) - (1 : Int32))) := ⟨_, rfl⟩
  replace h := h s2 e_s2
  replace hW : Wd G D tc b0 s2 H := by rw [e_s2]; exact hW
  refine x_iload_n C hl dX12_goRow_10 rfl ?_
  refine x_istore_n C hl dX12_goRow_11 (by decide) rfl (fun ls hl => ?_)
  exact t_X12_goRow_12 C hr hS hW (hl.keep [true, false, true, false] rfl) h
theorem T_X12_goRow (l : Launch) {G : Lay} {D : va_G} {tc : Nat → ClassId} {b0 : Nat} (l0 : Nat) (l1 : Int32) (σ : Mem) (Qx : Mem → Prop) (h : X_X12_goRow G Qx l0 l1 σ) : MV l yX12_goRow cX12_goRow 4 ((none : Option FieldType)) rm_X12_goRow G D tc b0 [rv b0 l0, .int l1] σ Qx :=
  x_entry (y := yX12_goRow) [.inr (.inr l0), .inl l1] 2 (by decide) (Nat.le_of_ble_eq_true rfl) (fun p e s m args below meth c ls C hr hW hl => t_X12_goRow_0 C hr va_S.rf hW (hl.keep [true, true, false, false] rfl) h)
/-! X12_deleteAll -/
set_option maxRecDepth 20000 in
set_option maxHeartbeats 4000000 in
theorem t_X12_deleteAll_107 {p : Program} {l : Launch} {e : Env} {s : State} {m : MethodId} {args : Array Value} {below : List Frame} {meth : Method} {c : Code} {H : Heap} {locs : List Loc} {D : va_G} {tc : Nat → ClassId} {b0 : Nat} {ls : Array Slot} {G : Lay} {Qx : Int32 → Mem → Prop} {l0 : Nat} {l2 : Int32} {l3 : Int32} {l4 : Int32} {l5 : Int32}  {K35 : Int32 × Mem → Prop} {K52 : Int32 × Int32 × Int32 × Mem → Prop} {σ : Mem} (C : Cx p s m args meth c cX12_deleteAll RX12 7 D tc b0) (hr : meth.sig.returnType = (some FieldType.boolean)) (hK35 : ∀ (x2 : Int32) (σ : Mem) (H : Heap) (locs : List Loc) (ls : Array Slot), va_S (AA b0) s.heap H locs → Wd G D tc b0 σ H → hL b0 ls 7 [some (.inr (.inr l0)), none, some (.inl x2), none, none, none, none] → K35 (x2, σ) → W p l e rm_X12_deleteAll s m args below meth c H locs 0 0 (MQ below (va_Qi Qx (fun u t => Pw G D tc b0 u t) (AA b0)) args s 0 0 (AA b0)) (F0 m 35 ls [])) (hK52 : ∀ (x3 : Int32) (x4 : Int32) (x5 : Int32) (σ : Mem) (H : Heap) (locs : List Loc) (ls : Array Slot), va_S (AA b0) s.heap H locs → Wd G D tc b0 σ H → hL b0 ls 7 [some (.inr (.inr l0)), none, some (.inl l2), some (.inl x3), some (.inl x4), some (.inl x5), none] → K52 (x3, x4, x5, σ) → W p l e rm_X12_deleteAll s m args below meth c H locs 0 0 (MQ below (va_Qi Qx (fun u t => Pw G D tc b0 u t) (AA b0)) args s 0 0 (AA b0)) (F0 m 52 ls [])) (hS : va_S (AA b0) s.heap H locs) (hW : Wd G D tc b0 σ H) (hl : hL b0 ls 7 [some (.inr (.inr l0)), none, some (.inl l2), some (.inl l3), some (.inl l4), some (.inl l5), none]) (h : X_X12_deleteAll_107 G Qx K35 K52 l0 l2 l3 l4 l5  σ) : W p l e rm_X12_deleteAll s m args below meth c H locs 0 0 (MQ below (va_Qi Qx (fun u t => Pw G D tc b0 u t) (AA b0)) args s 0 0 (AA b0)) (F0 m 107 ls []) := by
  have hx := C.1
  have hb := C.2.1
  unfold X_X12_deleteAll_107 at h
  refine x_iinc C hl dX12_deleteAll_107 rfl (v := (-1 : Int32)) (by decide) (by decide) rfl (fun ls hl => ?_)
  refine lv_goto hx hb dX12_deleteAll_110 (tgt := 52) rfl ?_
  exact hK52 _ _ _ _ _ _ _ hS hW (hl.keep [true, false, true, true, true, true, false] rfl) h
set_option maxRecDepth 20000 in
set_option maxHeartbeats 4000000 in
theorem t_X12_deleteAll_167 {p : Program} {l : Launch} {e : Env} {s : State} {m : MethodId} {args : Array Value} {below : List Frame} {meth : Method} {c : Code} {H : Heap} {locs : List Loc} {D : va_G} {tc : Nat → ClassId} {b0 : Nat} {ls : Array Slot} {G : Lay} {Qx : Int32 → Mem → Prop} {l0 : Nat} {l5 : Int32}  {σ : Mem} (C : Cx p s m args meth c cX12_deleteAll RX12 7 D tc b0) (hr : meth.sig.returnType = (some FieldType.boolean)) (hS : va_S (AA b0) s.heap H locs) (hW : Wd G D tc b0 σ H) (hl : hL b0 ls 7 [some (.inr (.inr l0)), none, none, none, none, some (.inl l5), none]) (h : X_X12_deleteAll_167 G Qx l0 l5  σ) : W p l e rm_X12_deleteAll s m args below meth c H locs 0 0 (MQ below (va_Qi Qx (fun u t => Pw G D tc b0 u t) (AA b0)) args s 0 0 (AA b0)) (F0 m 167 ls []) := by
  have hx := C.1
  have hb := C.2.1
  unfold X_X12_deleteAll_167 at h
  refine x_aload_n C hl dX12_deleteAll_167 rfl ?_
  refine lv_iconst (v := (2 : Int32)) hx hb dX12_deleteAll_168 (by decide) ?_
  refine x_iload C hl dX12_deleteAll_169 rfl ?_
  have t1 := h.1
  replace h := h.2
  refine y_i (x_run (As := [.int (2 : Int32), .int l5]) C hW hS (T_X12_ends l l0 (2 : Int32) l5 σ _ h) t1 kl_12 (CW.of yv_X12_ends ml_X12_453) ⟨rfl, rfl, ⟨by decide, by decide⟩, by decide, by decide⟩ rfl hl.1 rfl (by decide) dX12_deleteAll_171) hS (fun w3 s2 H locs h hW hS => ?_)
  exact r_z C hr hW hS h.1 h.2 dX12_deleteAll_174
set_option maxRecDepth 20000 in
set_option maxHeartbeats 4000000 in
theorem t_X12_deleteAll_123 {p : Program} {l : Launch} {e : Env} {s : State} {m : MethodId} {args : Array Value} {below : List Frame} {meth : Method} {c : Code} {H : Heap} {locs : List Loc} {D : va_G} {tc : Nat → ClassId} {b0 : Nat} {ls : Array Slot} {G : Lay} {Qx : Int32 → Mem → Prop} {l0 : Nat} {l2 : Int32} {k0 : Int32} {K35 : Int32 × Mem → Prop} {σ : Mem} (C : Cx p s m args meth c cX12_deleteAll RX12 7 D tc b0) (hr : meth.sig.returnType = (some FieldType.boolean)) (hK35 : ∀ (x2 : Int32) (σ : Mem) (H : Heap) (locs : List Loc) (ls : Array Slot), va_S (AA b0) s.heap H locs → Wd G D tc b0 σ H → hL b0 ls 7 [some (.inr (.inr l0)), none, some (.inl x2), none, none, none, none] → K35 (x2, σ) → W p l e rm_X12_deleteAll s m args below meth c H locs 0 0 (MQ below (va_Qi Qx (fun u t => Pw G D tc b0 u t) (AA b0)) args s 0 0 (AA b0)) (F0 m 35 ls [])) (hS : va_S (AA b0) s.heap H locs) (hW : Wd G D tc b0 σ H) (hl : hL b0 ls 7 [some (.inr (.inr l0)), none, some (.inl l2), none, none, none, none]) (h : X_X12_deleteAll_123 G Qx K35 l0 l2 k0 σ) : W p l e rm_X12_deleteAll s m args below meth c H locs 0 0 (MQ below (va_Qi Qx (fun u t => Pw G D tc b0 u t) (AA b0)) args s 0 0 (AA b0)) (F0 m 123 ls [.int k0]) := by
  have hx := C.1
  have hb := C.2.1
  unfold X_X12_deleteAll_123 at h
  refine x_istore C hl dX12_deleteAll_123 (by decide) rfl (fun ls hl => ?_)
  refine x_aload_n C hl dX12_deleteAll_125 rfl ?_
  refine x_aload_n C hl dX12_deleteAll_126 rfl ?_
  have t1 := h.1
  replace h := h.2
  refine x_get C hW (t := 12) (k := 43) t1 kl_12 (by decide) fl_X12_123 (v := rv b0 (mR σ l0 43)) rfl dX12_deleteAll_127 ?_
  refine x_iload C hl dX12_deleteAll_130 rfl ?_
  have t2 := h.1
  replace h := h.2
  have v3 := h.1
  replace h := h.2
  refine x_iald C hW t2 v3 dX12_deleteAll_132 ?_
  refine x_aload_n C hl dX12_deleteAll_133 rfl ?_
  refine x_get C hW (t := 12) (k := 44) t1 kl_12 (by decide) fl_X12_126 (v := rv b0 (mR σ l0 44)) rfl dX12_deleteAll_134 ?_
  refine x_iload C hl dX12_deleteAll_137 rfl ?_
  have t4 := h.1
  replace h := h.2
  have v5 := h.1
  replace h := h.2
  refine x_iald C hW t4 v5 dX12_deleteAll_139 ?_
  refine y_i (x_run (As := [.int (mI σ (mR σ l0 43) k0.toNatClampNeg), .int (mI σ (mR σ l0 44) k0.toNatClampNeg)]) C hW hS (T_X12_rowOf l l0 (mI σ (mR σ l0 43) k0.toNatClampNeg) (mI σ (mR σ l0 44) k0.toNatClampNeg) σ _ h) t1 kl_12 (CW.of yv_X12_rowOf ml_X12_369) ⟨rfl, rfl, ⟨by decide, by decide⟩, by decide, by decide⟩ rfl hl.1 rfl (by decide) dX12_deleteAll_140) hS (fun w7 s6 H locs h hW hS => ?_)
  refine x_istore C hl dX12_deleteAll_143 (by decide) rfl (fun ls hl => ?_)
  refine x_iload C hl dX12_deleteAll_145 rfl ?_
  refine lv_if_lt hx hb dX12_deleteAll_147 (tgt := 167) rfl (fun hc => ?_) (fun hc => ?_)
  · replace h := h.1 hc
    exact t_X12_deleteAll_167 C hr hS hW (hl.keep [true, false, false, false, false, true, false] rfl) h
  · replace h := h.2 hc
    refine x_aload_n C hl dX12_deleteAll_150 rfl ?_
    refine x_get C hW (t := 12) (k := 30) t1 kl_12 (by decide) fl_X12_86 (v := rv b0 (mR s6 l0 30)) rfl dX12_deleteAll_151 ?_
    refine x_iload C hl dX12_deleteAll_154 rfl ?_
    have t8 := h.1
    replace h := h.2
    have v9 := h.1
    replace h := h.2
    refine x_iald C hW t8 v9 dX12_deleteAll_156 ?_
    refine x_aload_n C hl dX12_deleteAll_157 rfl ?_
    refine x_get C hW (t := 12) (k := 46) t1 kl_12 (by decide) fl_X12_132 (v := rv b0 (mR s6 l0 46)) rfl dX12_deleteAll_158 ?_
    refine x_iload C hl dX12_deleteAll_161 rfl ?_
    have t10 := h.1
    replace h := h.2
    have v11 := h.1
    replace h := h.2
    refine x_iald C hW t10 v11 dX12_deleteAll_163 ?_
    refine lv_icmp_eq hx hb dX12_deleteAll_164 (tgt := 175) rfl (fun hc => ?_) (fun hc => ?_)
    · replace h := h.1 hc
      refine x_aload_n C hl dX12_deleteAll_175 rfl ?_
      refine x_aload_n C hl dX12_deleteAll_176 rfl ?_
      refine x_get C hW (t := 12) (k := 43) t1 kl_12 (by decide) fl_X12_123 (v := rv b0 (mR s6 l0 43)) rfl dX12_deleteAll_177 ?_
      refine x_iload C hl dX12_deleteAll_180 rfl ?_
      have t12 := h.1
      replace h := h.2
      have v13 := h.1
      replace h := h.2
      refine x_iald C hW t12 v13 dX12_deleteAll_182 ?_
      refine x_aload_n C hl dX12_deleteAll_183 rfl ?_
      refine x_get C hW (t := 12) (k := 44) t1 kl_12 (by decide) fl_X12_126 (v := rv b0 (mR s6 l0 44)) rfl dX12_deleteAll_184 ?_
      refine x_iload C hl dX12_deleteAll_187 rfl ?_
      have t14 := h.1
      replace h := h.2
      have v15 := h.1
      replace h := h.2
      refine x_iald C hW t14 v15 dX12_deleteAll_189 ?_
      refine y_i (x_run (As := [.int (mI s6 (mR s6 l0 43) k0.toNatClampNeg), .int (mI s6 (mR s6 l0 44) k0.toNatClampNeg)]) C hW hS (T_X12_leadsTo l l0 (mI s6 (mR s6 l0 43) k0.toNatClampNeg) (mI s6 (mR s6 l0 44) k0.toNatClampNeg) s6 _ h) t1 kl_12 (CW.of yv_X12_leadsTo ml_X12_468) ⟨rfl, rfl, ⟨by decide, by decide⟩, by decide, by decide⟩ rfl hl.1 rfl (by decide) dX12_deleteAll_190) hS (fun w17 s16 H locs h hW hS => ?_)
      refine lv_if_lt hx hb dX12_deleteAll_193 (tgt := 204) rfl (fun hc => ?_) (fun hc => ?_)
      · replace h := h.1 hc
        refine x_aload_n C hl dX12_deleteAll_204 rfl ?_
        refine x_iload C hl dX12_deleteAll_205 rfl ?_
        refine y_v (x_run (As := [.int w7]) C hW hS (T_X12_goRow l l0 w7 s16 _ h) t1 kl_12 (CW.of yv_X12_goRow ml_X12_471) ⟨rfl, rfl, ⟨by decide, by decide⟩, by decide, by decide⟩ rfl hl.1 rfl (by decide) dX12_deleteAll_207) hS (fun s18 H locs h hW hS => ?_)
        refine x_aload_n C hl dX12_deleteAll_210 rfl ?_
        refine x_get C hW (t := 12) (k := 79) t1 kl_12 (by decide) fl_X12_193 (v := rv b0 (mR s18 l0 79)) rfl dX12_deleteAll_211 ?_
        refine x_iload C hl dX12_deleteAll_214 rfl ?_
        refine lv_iconst (v := (1 : Int32)) hx hb dX12_deleteAll_216 (by decide) ?_
        have t19 := h.1
        replace h := h.2
        have v20 := h.1
        replace h := h.2
        refine x_zast C hW hS t19 v20 dX12_deleteAll_217 (fun H locs hW hS => ?_)
        obtain ⟨s21, e_s21⟩ : ∃ z : Mem, z = (sI s18 (mR s18 l0 79) k0.toNatClampNeg (vp_nar .boolean (1 : Int32))) := ⟨_, rfl⟩
        replace h := h s21 e_s21
        replace hW : Wd G D tc b0 s21 H := by rw [e_s21]; exact hW
        refine x_aload_n C hl dX12_deleteAll_218 rfl ?_
        refine lv_iconst (v := (2 : Int32)) hx hb dX12_deleteAll_219 (by decide) ?_
        refine x_iload C hl dX12_deleteAll_220 rfl ?_
        refine lv_iconst (v := (0 : Int32)) hx hb dX12_deleteAll_222 (by decide) ?_
        refine y_v (x_run (As := [.int (2 : Int32), .int k0, .int (0 : Int32)]) C hW hS (T_X12_written l l0 (2 : Int32) k0 (0 : Int32) s21 _ h) t1 kl_12 (CW.of yv_X12_written ml_X12_459) ⟨rfl, rfl, ⟨by decide, by decide⟩, by decide, by decide⟩ rfl hl.1 rfl (by decide) dX12_deleteAll_223) hS (fun s22 H locs h hW hS => ?_)
        refine x_iinc C hl dX12_deleteAll_226 rfl (v := (-1 : Int32)) (by decide) (by decide) rfl (fun ls hl => ?_)
        refine lv_goto hx hb dX12_deleteAll_229 (tgt := 35) rfl ?_
        exact hK35 _ _ _ _ _ hS hW (hl.keep [true, false, true, false, false, false, false] rfl) h
      · replace h := h.2 hc
        refine x_aload_n C hl dX12_deleteAll_196 rfl ?_
        refine lv_iconst (v := (1 : Int32)) hx hb dX12_deleteAll_197 (by decide) ?_
        refine x_iload C hl dX12_deleteAll_198 rfl ?_
        refine y_i (x_run (As := [.int (1 : Int32), .int k0]) C hW hS (T_X12_ends l l0 (1 : Int32) k0 s16 _ h) t1 kl_12 (CW.of yv_X12_ends ml_X12_453) ⟨rfl, rfl, ⟨by decide, by decide⟩, by decide, by decide⟩ rfl hl.1 rfl (by decide) dX12_deleteAll_200) hS (fun w24 s23 H locs h hW hS => ?_)
        exact r_z C hr hW hS h.1 h.2 dX12_deleteAll_203
    · replace h := h.2 hc
      exact t_X12_deleteAll_167 C hr hS hW (hl.keep [true, false, false, false, false, true, false] rfl) h
set_option maxRecDepth 20000 in
set_option maxHeartbeats 4000000 in
theorem t_X12_deleteAll_52_n {p : Program} {l : Launch} {e : Env} {s : State} {m : MethodId} {args : Array Value} {below : List Frame} {meth : Method} {c : Code} {D : va_G} {tc : Nat → ClassId} {b0 : Nat} {G : Lay} {Qx : Int32 → Mem → Prop} {l0 : Nat} {l2 : Int32} {K35 : Int32 × Mem → Prop} (C : Cx p s m args meth c cX12_deleteAll RX12 7 D tc b0) (hr : meth.sig.returnType = (some FieldType.boolean)) (hK35 : ∀ (x2 : Int32) (σ : Mem) (H : Heap) (locs : List Loc) (ls : Array Slot), va_S (AA b0) s.heap H locs → Wd G D tc b0 σ H → hL b0 ls 7 [some (.inr (.inr l0)), none, some (.inl x2), none, none, none, none] → K35 (x2, σ) → W p l e rm_X12_deleteAll s m args below meth c H locs 0 0 (MQ below (va_Qi Qx (fun u t => Pw G D tc b0 u t) (AA b0)) args s 0 0 (AA b0)) (F0 m 35 ls [])) (n : Nat) : ∀ (l3 : Int32) (l4 : Int32) (l5 : Int32) (σ : Mem) (H : Heap) (locs : List Loc) (ls : Array Slot), va_S (AA b0) s.heap H locs → Wd G D tc b0 σ H → hL b0 ls 7 [some (.inr (.inr l0)), none, some (.inl l2), some (.inl l3), some (.inl l4), some (.inl l5), none] → Lp (X_X12_deleteAll_52_s G Qx K35 l0 l2) n (l3, l4, l5, σ) → W p l e rm_X12_deleteAll s m args below meth c H locs 0 0 (MQ below (va_Qi Qx (fun u t => Pw G D tc b0 u t) (AA b0)) args s 0 0 (AA b0)) (F0 m 52 ls []) := by
  have hx := C.1
  have hb := C.2.1
  induction n with
  | zero => intro l3 l4 l5 σ H locs ls hS hW hl h; exact False.elim h
  | succ n hK52 =>
    intro l3 l4 l5 σ H locs ls hS hW hl h
    replace h : X_X12_deleteAll_52_s G Qx K35 l0 l2 (Lp (X_X12_deleteAll_52_s G Qx K35 l0 l2) n) (l3, l4, l5, σ) := h
    unfold X_X12_deleteAll_52_s at h
    refine x_iload C hl dX12_deleteAll_52 rfl ?_
    refine lv_if_lt hx hb dX12_deleteAll_54 (tgt := 113) rfl (fun hc => ?_) (fun hc => ?_)
    · replace h := h.1 hc
      refine x_iload_n C hl dX12_deleteAll_113 rfl ?_
      refine lv_if_ge hx hb dX12_deleteAll_114 (tgt := 122) rfl (fun hc => ?_) (fun hc => ?_)
      · replace h := h.1 hc
        refine x_iload_n C hl dX12_deleteAll_122 rfl ?_
        exact t_X12_deleteAll_123 C hr hK35 hS hW (hl.keep [true, false, true, false, false, false, false] rfl) h
      · replace h := h.2 hc
        refine x_iload C hl dX12_deleteAll_117 rfl ?_
        refine lv_goto hx hb dX12_deleteAll_119 (tgt := 123) rfl ?_
        exact t_X12_deleteAll_123 C hr hK35 hS hW (hl.keep [true, false, true, false, false, false, false] rfl) h
    · replace h := h.2 hc
      refine x_aload_n C hl dX12_deleteAll_57 rfl ?_
      have t1 := h.1
      replace h := h.2
      refine x_get C hW (t := 12) (k := 74) t1 kl_12 (by decide) fl_X12_181 (v := rv b0 (mR σ l0 74)) rfl dX12_deleteAll_58 ?_
      refine x_iload C hl dX12_deleteAll_61 rfl ?_
      have t2 := h.1
      replace h := h.2
      have v3 := h.1
      replace h := h.2
      refine x_iald C hW t2 v3 dX12_deleteAll_63 ?_
      refine x_istore C hl dX12_deleteAll_64 (by decide) rfl (fun ls hl => ?_)
      refine x_aload_n C hl dX12_deleteAll_66 rfl ?_
      refine x_get C hW (t := 12) (k := 79) t1 kl_12 (by decide) fl_X12_193 (v := rv b0 (mR σ l0 79)) rfl dX12_deleteAll_67 ?_
      refine x_iload C hl dX12_deleteAll_70 rfl ?_
      have t4 := h.1
      replace h := h.2
      have v5 := h.1
      replace h := h.2
      refine x_zald C hW t4 v5 dX12_deleteAll_72 ?_
      refine lv_if_eq hx hb dX12_deleteAll_73 (tgt := 79) rfl (fun hc => ?_) (fun hc => ?_)
      · replace h := h.1 hc
        refine x_iload C hl dX12_deleteAll_79 rfl ?_
        refine x_istore C hl dX12_deleteAll_81 (by decide) rfl (fun ls hl => ?_)
        refine x_aload_n C hl dX12_deleteAll_83 rfl ?_
        refine x_aload_n C hl dX12_deleteAll_84 rfl ?_
        refine x_get C hW (t := 12) (k := 43) t1 kl_12 (by decide) fl_X12_123 (v := rv b0 (mR σ l0 43)) rfl dX12_deleteAll_85 ?_
        refine x_iload C hl dX12_deleteAll_88 rfl ?_
        have t6 := h.1
        replace h := h.2
        have v7 := h.1
        replace h := h.2
        refine x_iald C hW t6 v7 dX12_deleteAll_90 ?_
        refine x_aload_n C hl dX12_deleteAll_91 rfl ?_
        refine x_get C hW (t := 12) (k := 44) t1 kl_12 (by decide) fl_X12_126 (v := rv b0 (mR σ l0 44)) rfl dX12_deleteAll_92 ?_
        refine x_iload C hl dX12_deleteAll_95 rfl ?_
        have t8 := h.1
        replace h := h.2
        have v9 := h.1
        replace h := h.2
        refine x_iald C hW t8 v9 dX12_deleteAll_97 ?_
        refine y_i (x_run (As := [.int (mI σ (mR σ l0 43) (mI σ (mR σ l0 74) l5.toNatClampNeg).toNatClampNeg), .int (mI σ (mR σ l0 44) (mI σ (mR σ l0 74) l5.toNatClampNeg).toNatClampNeg)]) C hW hS (T_X12_leadsTo l l0 (mI σ (mR σ l0 43) (mI σ (mR σ l0 74) l5.toNatClampNeg).toNatClampNeg) (mI σ (mR σ l0 44) (mI σ (mR σ l0 74) l5.toNatClampNeg).toNatClampNeg) σ _ h) t1 kl_12 (CW.of yv_X12_leadsTo ml_X12_468) ⟨rfl, rfl, ⟨by decide, by decide⟩, by decide, by decide⟩ rfl hl.1 rfl (by decide) dX12_deleteAll_98) hS (fun w11 s10 H locs h hW hS => ?_)
        refine lv_if_ge hx hb dX12_deleteAll_101 (tgt := 107) rfl (fun hc => ?_) (fun hc => ?_)
        · replace h := h.1 hc
          exact t_X12_deleteAll_107 C hr hK35 hK52 hS hW (hl.keep [true, false, true, true, true, true, false] rfl) h
        · replace h := h.2 hc
          refine x_iload C hl dX12_deleteAll_104 rfl ?_
          refine x_istore_n C hl dX12_deleteAll_106 (by decide) rfl (fun ls hl => ?_)
          exact t_X12_deleteAll_107 C hr hK35 hK52 hS hW (hl.keep [true, false, true, true, true, true, false] rfl) h
      · replace h := h.2 hc
        refine lv_goto hx hb dX12_deleteAll_76 (tgt := 107) rfl ?_
        exact t_X12_deleteAll_107 C hr hK35 hK52 hS hW (hl.keep [true, false, true, true, true, true, false] rfl) h
set_option maxRecDepth 20000 in
set_option maxHeartbeats 4000000 in
theorem t_X12_deleteAll_52 {p : Program} {l : Launch} {e : Env} {s : State} {m : MethodId} {args : Array Value} {below : List Frame} {meth : Method} {c : Code} {H : Heap} {locs : List Loc} {D : va_G} {tc : Nat → ClassId} {b0 : Nat} {ls : Array Slot} {G : Lay} {Qx : Int32 → Mem → Prop} {l0 : Nat} {l2 : Int32} {l3 : Int32} {l4 : Int32} {l5 : Int32}  {K35 : Int32 × Mem → Prop} {σ : Mem} (C : Cx p s m args meth c cX12_deleteAll RX12 7 D tc b0) (hr : meth.sig.returnType = (some FieldType.boolean)) (hK35 : ∀ (x2 : Int32) (σ : Mem) (H : Heap) (locs : List Loc) (ls : Array Slot), va_S (AA b0) s.heap H locs → Wd G D tc b0 σ H → hL b0 ls 7 [some (.inr (.inr l0)), none, some (.inl x2), none, none, none, none] → K35 (x2, σ) → W p l e rm_X12_deleteAll s m args below meth c H locs 0 0 (MQ below (va_Qi Qx (fun u t => Pw G D tc b0 u t) (AA b0)) args s 0 0 (AA b0)) (F0 m 35 ls [])) (hS : va_S (AA b0) s.heap H locs) (hW : Wd G D tc b0 σ H) (hl : hL b0 ls 7 [some (.inr (.inr l0)), none, some (.inl l2), some (.inl l3), some (.inl l4), some (.inl l5), none]) (h : X_X12_deleteAll_52 G Qx K35 l0 l2 l3 l4 l5 σ) : W p l e rm_X12_deleteAll s m args below meth c H locs 0 0 (MQ below (va_Qi Qx (fun u t => Pw G D tc b0 u t) (AA b0)) args s 0 0 (AA b0)) (F0 m 52 ls []) := by
  obtain ⟨n, h⟩ := h
  exact t_X12_deleteAll_52_n C hr hK35 n l3 l4 l5 σ H locs ls hS hW hl h
set_option maxRecDepth 20000 in
set_option maxHeartbeats 4000000 in
theorem t_X12_deleteAll_35_n {p : Program} {l : Launch} {e : Env} {s : State} {m : MethodId} {args : Array Value} {below : List Frame} {meth : Method} {c : Code} {D : va_G} {tc : Nat → ClassId} {b0 : Nat} {G : Lay} {Qx : Int32 → Mem → Prop} {l0 : Nat} (C : Cx p s m args meth c cX12_deleteAll RX12 7 D tc b0) (hr : meth.sig.returnType = (some FieldType.boolean)) (n : Nat) : ∀ (l2 : Int32) (σ : Mem) (H : Heap) (locs : List Loc) (ls : Array Slot), va_S (AA b0) s.heap H locs → Wd G D tc b0 σ H → hL b0 ls 7 [some (.inr (.inr l0)), none, some (.inl l2), none, none, none, none] → Lp (X_X12_deleteAll_35_s G Qx l0) n (l2, σ) → W p l e rm_X12_deleteAll s m args below meth c H locs 0 0 (MQ below (va_Qi Qx (fun u t => Pw G D tc b0 u t) (AA b0)) args s 0 0 (AA b0)) (F0 m 35 ls []) := by
  have hx := C.1
  have hb := C.2.1
  induction n with
  | zero => intro l2 σ H locs ls hS hW hl h; exact False.elim h
  | succ n hK35 =>
    intro l2 σ H locs ls hS hW hl h
    replace h : X_X12_deleteAll_35_s G Qx l0 (Lp (X_X12_deleteAll_35_s G Qx l0) n) (l2, σ) := h
    unfold X_X12_deleteAll_35_s at h
    refine x_iload_n C hl dX12_deleteAll_35 rfl ?_
    refine lv_if_le hx hb dX12_deleteAll_36 (tgt := 232) rfl (fun hc => ?_) (fun hc => ?_)
    · replace h := h.1 hc
      refine lv_iconst (v := (1 : Int32)) hx hb dX12_deleteAll_232 (by decide) ?_
      exact r_z C hr hW hS h.1 h.2 dX12_deleteAll_233
    · replace h := h.2 hc
      refine lv_iconst (v := (-1 : Int32)) hx hb dX12_deleteAll_39 (by decide) ?_
      refine x_istore_n C hl dX12_deleteAll_40 (by decide) rfl (fun ls hl => ?_)
      refine lv_iconst (v := (-1 : Int32)) hx hb dX12_deleteAll_41 (by decide) ?_
      refine x_istore C hl dX12_deleteAll_42 (by decide) rfl (fun ls hl => ?_)
      refine x_aload_n C hl dX12_deleteAll_44 rfl ?_
      have t1 := h.1
      replace h := h.2
      refine x_get C hW (t := 12) (k := 75) t1 kl_12 (by decide) fl_X12_440 (v := .int (mI σ l0 75)) rfl dX12_deleteAll_45 ?_
      refine lv_iconst (v := (1 : Int32)) hx hb dX12_deleteAll_48 (by decide) ?_
      refine lv_isub hx hb dX12_deleteAll_49 ?_
      refine x_istore C hl dX12_deleteAll_50 (by decide) rfl (fun ls hl => ?_)
      exact t_X12_deleteAll_52 C hr hK35 hS hW (hl.keep [true, false, true, true, true, true, false] rfl) h
set_option maxRecDepth 20000 in
set_option maxHeartbeats 4000000 in
theorem t_X12_deleteAll_35 {p : Program} {l : Launch} {e : Env} {s : State} {m : MethodId} {args : Array Value} {below : List Frame} {meth : Method} {c : Code} {H : Heap} {locs : List Loc} {D : va_G} {tc : Nat → ClassId} {b0 : Nat} {ls : Array Slot} {G : Lay} {Qx : Int32 → Mem → Prop} {l0 : Nat} {l2 : Int32}  {σ : Mem} (C : Cx p s m args meth c cX12_deleteAll RX12 7 D tc b0) (hr : meth.sig.returnType = (some FieldType.boolean)) (hS : va_S (AA b0) s.heap H locs) (hW : Wd G D tc b0 σ H) (hl : hL b0 ls 7 [some (.inr (.inr l0)), none, some (.inl l2), none, none, none, none]) (h : X_X12_deleteAll_35 G Qx l0 l2 σ) : W p l e rm_X12_deleteAll s m args below meth c H locs 0 0 (MQ below (va_Qi Qx (fun u t => Pw G D tc b0 u t) (AA b0)) args s 0 0 (AA b0)) (F0 m 35 ls []) := by
  obtain ⟨n, h⟩ := h
  exact t_X12_deleteAll_35_n C hr n l2 σ H locs ls hS hW hl h
set_option maxRecDepth 20000 in
set_option maxHeartbeats 4000000 in
theorem t_X12_deleteAll_10_n {p : Program} {l : Launch} {e : Env} {s : State} {m : MethodId} {args : Array Value} {below : List Frame} {meth : Method} {c : Code} {D : va_G} {tc : Nat → ClassId} {b0 : Nat} {G : Lay} {Qx : Int32 → Mem → Prop} {l0 : Nat} (C : Cx p s m args meth c cX12_deleteAll RX12 7 D tc b0) (hr : meth.sig.returnType = (some FieldType.boolean)) (n : Nat) : ∀ (l2 : Int32) (σ : Mem) (H : Heap) (locs : List Loc) (ls : Array Slot), va_S (AA b0) s.heap H locs → Wd G D tc b0 σ H → hL b0 ls 7 [some (.inr (.inr l0)), none, some (.inl l2), none, none, none, none] → Lp (X_X12_deleteAll_10_s G Qx l0) n (l2, σ) → W p l e rm_X12_deleteAll s m args below meth c H locs 0 0 (MQ below (va_Qi Qx (fun u t => Pw G D tc b0 u t) (AA b0)) args s 0 0 (AA b0)) (F0 m 10 ls []) := by
  have hx := C.1
  have hb := C.2.1
  induction n with
  | zero => intro l2 σ H locs ls hS hW hl h; exact False.elim h
  | succ n hK10 =>
    intro l2 σ H locs ls hS hW hl h
    replace h : X_X12_deleteAll_10_s G Qx l0 (Lp (X_X12_deleteAll_10_s G Qx l0) n) (l2, σ) := h
    unfold X_X12_deleteAll_10_s at h
    refine x_iload_n C hl dX12_deleteAll_10 rfl ?_
    refine lv_sipush (v := (240 : Int32)) hx hb dX12_deleteAll_11 (by decide) ?_
    refine lv_icmp_ge hx hb dX12_deleteAll_14 (tgt := 30) rfl (fun hc => ?_) (fun hc => ?_)
    · replace h := h.1 hc
      refine x_aload_n C hl dX12_deleteAll_30 rfl ?_
      have t1 := h.1
      replace h := h.2
      refine x_get C hW (t := 12) (k := 75) t1 kl_12 (by decide) fl_X12_440 (v := .int (mI σ l0 75)) rfl dX12_deleteAll_31 ?_
      refine x_istore_n C hl dX12_deleteAll_34 (by decide) rfl (fun ls hl => ?_)
      exact t_X12_deleteAll_35 C hr hS hW (hl.keep [true, false, true, false, false, false, false] rfl) h
    · replace h := h.2 hc
      refine x_aload_n C hl dX12_deleteAll_17 rfl ?_
      have t2 := h.1
      replace h := h.2
      refine x_get C hW (t := 12) (k := 79) t2 kl_12 (by decide) fl_X12_193 (v := rv b0 (mR σ l0 79)) rfl dX12_deleteAll_18 ?_
      refine x_iload_n C hl dX12_deleteAll_21 rfl ?_
      refine lv_iconst (v := (0 : Int32)) hx hb dX12_deleteAll_22 (by decide) ?_
      have t3 := h.1
      replace h := h.2
      have v4 := h.1
      replace h := h.2
      refine x_zast C hW hS t3 v4 dX12_deleteAll_23 (fun H locs hW hS => ?_)
      obtain ⟨s5, e_s5⟩ : ∃ z : Mem, z = (sI σ (mR σ l0 79) l2.toNatClampNeg (vp_nar .boolean (0 : Int32))) := ⟨_, rfl⟩
      replace h := h s5 e_s5
      replace hW : Wd G D tc b0 s5 H := by rw [e_s5]; exact hW
      refine x_iinc C hl dX12_deleteAll_24 rfl (v := (1 : Int32)) (by decide) (by decide) rfl (fun ls hl => ?_)
      refine lv_goto hx hb dX12_deleteAll_27 (tgt := 10) rfl ?_
      exact hK10 _ _ _ _ _ hS hW (hl.keep [true, false, true, false, false, false, false] rfl) h
set_option maxRecDepth 20000 in
set_option maxHeartbeats 4000000 in
theorem t_X12_deleteAll_10 {p : Program} {l : Launch} {e : Env} {s : State} {m : MethodId} {args : Array Value} {below : List Frame} {meth : Method} {c : Code} {H : Heap} {locs : List Loc} {D : va_G} {tc : Nat → ClassId} {b0 : Nat} {ls : Array Slot} {G : Lay} {Qx : Int32 → Mem → Prop} {l0 : Nat} {l2 : Int32}  {σ : Mem} (C : Cx p s m args meth c cX12_deleteAll RX12 7 D tc b0) (hr : meth.sig.returnType = (some FieldType.boolean)) (hS : va_S (AA b0) s.heap H locs) (hW : Wd G D tc b0 σ H) (hl : hL b0 ls 7 [some (.inr (.inr l0)), none, some (.inl l2), none, none, none, none]) (h : X_X12_deleteAll_10 G Qx l0 l2 σ) : W p l e rm_X12_deleteAll s m args below meth c H locs 0 0 (MQ below (va_Qi Qx (fun u t => Pw G D tc b0 u t) (AA b0)) args s 0 0 (AA b0)) (F0 m 10 ls []) := by
  obtain ⟨n, h⟩ := h
  exact t_X12_deleteAll_10_n C hr n l2 σ H locs ls hS hW hl h
set_option maxRecDepth 20000 in
set_option maxHeartbeats 4000000 in
theorem t_X12_deleteAll_0 {p : Program} {l : Launch} {e : Env} {s : State} {m : MethodId} {args : Array Value} {below : List Frame} {meth : Method} {c : Code} {H : Heap} {locs : List Loc} {D : va_G} {tc : Nat → ClassId} {b0 : Nat} {ls : Array Slot} {G : Lay} {Qx : Int32 → Mem → Prop} {l0 : Nat} {l1 : Int32}  {σ : Mem} (C : Cx p s m args meth c cX12_deleteAll RX12 7 D tc b0) (hr : meth.sig.returnType = (some FieldType.boolean)) (hS : va_S (AA b0) s.heap H locs) (hW : Wd G D tc b0 σ H) (hl : hL b0 ls 7 [some (.inr (.inr l0)), some (.inl l1), none, none, none, none, none]) (h : X_X12_deleteAll_0 G Qx l0 l1  σ) : W p l e rm_X12_deleteAll s m args below meth c H locs 0 0 (MQ below (va_Qi Qx (fun u t => Pw G D tc b0 u t) (AA b0)) args s 0 0 (AA b0)) (F0 m 0 ls []) := by
  have hx := C.1
  have hb := C.2.1
  unfold X_X12_deleteAll_0 at h
  refine x_aload_n C hl dX12_deleteAll_0 rfl ?_
  refine x_iload_n C hl dX12_deleteAll_1 rfl ?_
  refine lv_iconst (v := (0 : Int32)) hx hb dX12_deleteAll_2 (by decide) ?_
  refine lv_iconst (v := (0 : Int32)) hx hb dX12_deleteAll_3 (by decide) ?_
  refine lv_iconst (v := (1 : Int32)) hx hb dX12_deleteAll_4 (by decide) ?_
  have t1 := h.1
  replace h := h.2
  refine y_v (x_run (As := [.int l1, .int (0 : Int32), .int (0 : Int32), .int (1 : Int32)]) C hW hS (T_X12_inOrder l l0 l1 (0 : Int32) (0 : Int32) (1 : Int32) σ _ h) t1 kl_12 (CW.of yv_X12_inOrder ml_X12_446) ⟨rfl, rfl, ⟨by decide, by decide⟩, by decide, by decide⟩ rfl hl.1 rfl (by decide) dX12_deleteAll_5) hS (fun s2 H locs h hW hS => ?_)
  refine lv_iconst (v := (0 : Int32)) hx hb dX12_deleteAll_8 (by decide) ?_
  refine x_istore_n C hl dX12_deleteAll_9 (by decide) rfl (fun ls hl => ?_)
  exact t_X12_deleteAll_10 C hr hS hW (hl.keep [true, false, true, false, false, false, false] rfl) h
theorem T_X12_deleteAll (l : Launch) {G : Lay} {D : va_G} {tc : Nat → ClassId} {b0 : Nat} (l0 : Nat) (l1 : Int32) (σ : Mem) (Qx : Int32 → Mem → Prop) (h : X_X12_deleteAll G Qx l0 l1 σ) : MI l yX12_deleteAll cX12_deleteAll 7 ((some FieldType.boolean)) rm_X12_deleteAll G D tc b0 [rv b0 l0, .int l1] σ Qx :=
  x_entry (y := yX12_deleteAll) [.inr (.inr l0), .inl l1] 5 (by decide) (Nat.le_of_ble_eq_true rfl) (fun p e s m args below meth c ls C hr hW hl => t_X12_deleteAll_0 C hr va_S.rf hW (hl.keep [true, true, false, false, false, false, false] rfl) h)
/-! X12_writeUnit -/
set_option maxRecDepth 20000 in
set_option maxHeartbeats 4000000 in
theorem t_X12_writeUnit_107 {p : Program} {l : Launch} {e : Env} {s : State} {m : MethodId} {args : Array Value} {below : List Frame} {meth : Method} {c : Code} {H : Heap} {locs : List Loc} {D : va_G} {tc : Nat → ClassId} {b0 : Nat} {ls : Array Slot} {G : Lay} {Qx : Int32 → Mem → Prop} {l0 : Nat} {l1 : Int32} {l2 : Int32}  {K75 : Int32 × Mem → Prop} {σ : Mem} (C : Cx p s m args meth c cX12_writeUnit RX12 5 D tc b0) (hr : meth.sig.returnType = (some FieldType.int)) (hK75 : ∀ (x2 : Int32) (σ : Mem) (H : Heap) (locs : List Loc) (ls : Array Slot), va_S (AA b0) s.heap H locs → Wd G D tc b0 σ H → hL b0 ls 5 [some (.inr (.inr l0)), some (.inl l1), some (.inl x2), none, none] → K75 (x2, σ) → W p l e rm_X12_writeUnit s m args below meth c H locs 0 0 (MQ below (va_Qi Qx (fun u t => Pw G D tc b0 u t) (AA b0)) args s 0 0 (AA b0)) (F0 m 75 ls [])) (hS : va_S (AA b0) s.heap H locs) (hW : Wd G D tc b0 σ H) (hl : hL b0 ls 5 [some (.inr (.inr l0)), some (.inl l1), some (.inl l2), none, none]) (h : X_X12_writeUnit_107 G Qx K75 l0 l1 l2  σ) : W p l e rm_X12_writeUnit s m args below meth c H locs 0 0 (MQ below (va_Qi Qx (fun u t => Pw G D tc b0 u t) (AA b0)) args s 0 0 (AA b0)) (F0 m 107 ls []) := by
  have hx := C.1
  have hb := C.2.1
  unfold X_X12_writeUnit_107 at h
  refine x_iinc C hl dX12_writeUnit_107 rfl (v := (1 : Int32)) (by decide) (by decide) rfl (fun ls hl => ?_)
  refine lv_goto hx hb dX12_writeUnit_110 (tgt := 75) rfl ?_
  exact hK75 _ _ _ _ _ hS hW (hl.keep [true, true, true, false, false] rfl) h
set_option maxRecDepth 20000 in
set_option maxHeartbeats 4000000 in
theorem t_X12_writeUnit_160 {p : Program} {l : Launch} {e : Env} {s : State} {m : MethodId} {args : Array Value} {below : List Frame} {meth : Method} {c : Code} {H : Heap} {locs : List Loc} {D : va_G} {tc : Nat → ClassId} {b0 : Nat} {ls : Array Slot} {G : Lay} {Qx : Int32 → Mem → Prop} {l0 : Nat}  {σ : Mem} (C : Cx p s m args meth c cX12_writeUnit RX12 5 D tc b0) (hr : meth.sig.returnType = (some FieldType.int)) (hS : va_S (AA b0) s.heap H locs) (hW : Wd G D tc b0 σ H) (hl : hL b0 ls 5 [some (.inr (.inr l0)), none, none, none, none]) (h : X_X12_writeUnit_160 G Qx l0  σ) : W p l e rm_X12_writeUnit s m args below meth c H locs 0 0 (MQ below (va_Qi Qx (fun u t => Pw G D tc b0 u t) (AA b0)) args s 0 0 (AA b0)) (F0 m 160 ls []) := by
  have hx := C.1
  have hb := C.2.1
  unfold X_X12_writeUnit_160 at h
  refine x_aload_n C hl dX12_writeUnit_160 rfl ?_
  have t1 := h.1
  replace h := h.2
  refine x_get C hW (t := 12) (k := 64) t1 kl_12 (by decide) fl_X12_434 (v := .int (mI σ l0 64)) rfl dX12_writeUnit_161 ?_
  exact r_i C hr hW hS h dX12_writeUnit_164
set_option maxRecDepth 20000 in
set_option maxHeartbeats 4000000 in
theorem t_X12_writeUnit_141 {p : Program} {l : Launch} {e : Env} {s : State} {m : MethodId} {args : Array Value} {below : List Frame} {meth : Method} {c : Code} {H : Heap} {locs : List Loc} {D : va_G} {tc : Nat → ClassId} {b0 : Nat} {ls : Array Slot} {G : Lay} {Qx : Int32 → Mem → Prop} {l0 : Nat} {l1 : Int32}  {σ : Mem} (C : Cx p s m args meth c cX12_writeUnit RX12 5 D tc b0) (hr : meth.sig.returnType = (some FieldType.int)) (hS : va_S (AA b0) s.heap H locs) (hW : Wd G D tc b0 σ H) (hl : hL b0 ls 5 [some (.inr (.inr l0)), some (.inl l1), none, none, none]) (h : X_X12_writeUnit_141 G Qx l0 l1  σ) : W p l e rm_X12_writeUnit s m args below meth c H locs 0 0 (MQ below (va_Qi Qx (fun u t => Pw G D tc b0 u t) (AA b0)) args s 0 0 (AA b0)) (F0 m 141 ls []) := by
  have hx := C.1
  have hb := C.2.1
  unfold X_X12_writeUnit_141 at h
  refine x_aload_n C hl dX12_writeUnit_141 rfl ?_
  have t1 := h.1
  replace h := h.2
  refine y_v (x_run (As := []) C hW hS (T_X12_backRows l l0 σ _ h) t1 kl_12 (CW.of yv_X12_backRows ml_X12_489) ⟨rfl, rfl, ⟨by decide, by decide⟩, by decide, by decide⟩ rfl hl.1 rfl (by decide) dX12_writeUnit_142) hS (fun s2 H locs h hW hS => ?_)
  refine x_aload_n C hl dX12_writeUnit_145 rfl ?_
  refine x_get C hW (t := 12) (k := 64) t1 kl_12 (by decide) fl_X12_434 (v := .int (mI s2 l0 64)) rfl dX12_writeUnit_146 ?_
  refine lv_iconst (v := (2 : Int32)) hx hb dX12_writeUnit_149 (by decide) ?_
  refine lv_icmp_ne hx hb dX12_writeUnit_150 (tgt := 160) rfl (fun hc => ?_) (fun hc => ?_)
  · replace h := h.2 hc
    exact t_X12_writeUnit_160 C hr hS hW (hl.keep [true, false, false, false, false] rfl) h
  · replace h := h.1 hc
    refine x_aload_n C hl dX12_writeUnit_153 rfl ?_
    refine x_get C hW (t := 12) (k := 39) t1 kl_12 (by decide) fl_X12_110 (v := rv b0 (mR s2 l0 39)) rfl dX12_writeUnit_154 ?_
    refine x_iload_n C hl dX12_writeUnit_157 rfl ?_
    refine lv_iconst (v := (0 : Int32)) hx hb dX12_writeUnit_158 (by decide) ?_
    have t3 := h.1
    replace h := h.2
    have v4 := h.1
    replace h := h.2
    refine x_zast C hW hS t3 v4 dX12_writeUnit_159 (fun H locs hW hS => ?_)
    obtain ⟨s5, e_s5⟩ : ∃ z : Mem, z = (sI s2 (mR s2 l0 39) l1.toNatClampNeg (vp_nar .boolean (0 : Int32))) := ⟨_, rfl⟩
    replace h := h s5 e_s5
    replace hW : Wd G D tc b0 s5 H := by rw [e_s5]; exact hW
    exact t_X12_writeUnit_160 C hr hS hW (hl.keep [true, false, false, false, false] rfl) h
set_option maxRecDepth 20000 in
set_option maxHeartbeats 4000000 in
theorem t_X12_writeUnit_306 {p : Program} {l : Launch} {e : Env} {s : State} {m : MethodId} {args : Array Value} {below : List Frame} {meth : Method} {c : Code} {H : Heap} {locs : List Loc} {D : va_G} {tc : Nat → ClassId} {b0 : Nat} {ls : Array Slot} {G : Lay} {Qx : Int32 → Mem → Prop} {l0 : Nat} {l1 : Int32} {l2 : Int32}  {K167 : Int32 × Mem → Prop} {σ : Mem} (C : Cx p s m args meth c cX12_writeUnit RX12 5 D tc b0) (hr : meth.sig.returnType = (some FieldType.int)) (hK167 : ∀ (x2 : Int32) (σ : Mem) (H : Heap) (locs : List Loc) (ls : Array Slot), va_S (AA b0) s.heap H locs → Wd G D tc b0 σ H → hL b0 ls 5 [some (.inr (.inr l0)), some (.inl l1), some (.inl x2), none, none] → K167 (x2, σ) → W p l e rm_X12_writeUnit s m args below meth c H locs 0 0 (MQ below (va_Qi Qx (fun u t => Pw G D tc b0 u t) (AA b0)) args s 0 0 (AA b0)) (F0 m 167 ls [])) (hS : va_S (AA b0) s.heap H locs) (hW : Wd G D tc b0 σ H) (hl : hL b0 ls 5 [some (.inr (.inr l0)), some (.inl l1), some (.inl l2), none, none]) (h : X_X12_writeUnit_306 G Qx K167 l0 l1 l2  σ) : W p l e rm_X12_writeUnit s m args below meth c H locs 0 0 (MQ below (va_Qi Qx (fun u t => Pw G D tc b0 u t) (AA b0)) args s 0 0 (AA b0)) (F0 m 306 ls []) := by
  have hx := C.1
  have hb := C.2.1
  unfold X_X12_writeUnit_306 at h
  refine x_iinc C hl dX12_writeUnit_306 rfl (v := (1 : Int32)) (by decide) (by decide) rfl (fun ls hl => ?_)
  refine lv_goto hx hb dX12_writeUnit_309 (tgt := 167) rfl ?_
  exact hK167 _ _ _ _ _ hS hW (hl.keep [true, true, true, false, false] rfl) h
set_option maxRecDepth 20000 in
set_option maxHeartbeats 4000000 in
theorem t_X12_writeUnit_269_n {p : Program} {l : Launch} {e : Env} {s : State} {m : MethodId} {args : Array Value} {below : List Frame} {meth : Method} {c : Code} {D : va_G} {tc : Nat → ClassId} {b0 : Nat} {G : Lay} {Qx : Int32 → Mem → Prop} {l0 : Nat} {l1 : Int32} {l2 : Int32} {l3 : Int32} {K167 : Int32 × Mem → Prop} (C : Cx p s m args meth c cX12_writeUnit RX12 5 D tc b0) (hr : meth.sig.returnType = (some FieldType.int)) (hK167 : ∀ (x2 : Int32) (σ : Mem) (H : Heap) (locs : List Loc) (ls : Array Slot), va_S (AA b0) s.heap H locs → Wd G D tc b0 σ H → hL b0 ls 5 [some (.inr (.inr l0)), some (.inl l1), some (.inl x2), none, none] → K167 (x2, σ) → W p l e rm_X12_writeUnit s m args below meth c H locs 0 0 (MQ below (va_Qi Qx (fun u t => Pw G D tc b0 u t) (AA b0)) args s 0 0 (AA b0)) (F0 m 167 ls [])) (n : Nat) : ∀ (l4 : Int32) (σ : Mem) (H : Heap) (locs : List Loc) (ls : Array Slot), va_S (AA b0) s.heap H locs → Wd G D tc b0 σ H → hL b0 ls 5 [some (.inr (.inr l0)), some (.inl l1), some (.inl l2), some (.inl l3), some (.inl l4)] → Lp (X_X12_writeUnit_269_s G Qx K167 l0 l1 l2 l3) n (l4, σ) → W p l e rm_X12_writeUnit s m args below meth c H locs 0 0 (MQ below (va_Qi Qx (fun u t => Pw G D tc b0 u t) (AA b0)) args s 0 0 (AA b0)) (F0 m 269 ls []) := by
  have hx := C.1
  have hb := C.2.1
  induction n with
  | zero => intro l4 σ H locs ls hS hW hl h; exact False.elim h
  | succ n hK269 =>
    intro l4 σ H locs ls hS hW hl h
    replace h : X_X12_writeUnit_269_s G Qx K167 l0 l1 l2 l3 (Lp (X_X12_writeUnit_269_s G Qx K167 l0 l1 l2 l3) n) (l4, σ) := h
    unfold X_X12_writeUnit_269_s at h
    refine x_iload C hl dX12_writeUnit_269 rfl ?_
    refine lv_bipush (v := (16 : Int32)) hx hb dX12_writeUnit_271 (by decide) ?_
    refine lv_icmp_ge hx hb dX12_writeUnit_273 (tgt := 306) rfl (fun hc => ?_) (fun hc => ?_)
    · replace h := h.1 hc
      exact t_X12_writeUnit_306 C hr hK167 hS hW (hl.keep [true, true, true, false, false] rfl) h
    · replace h := h.2 hc
      refine x_aload_n C hl dX12_writeUnit_276 rfl ?_
      have t1 := h.1
      replace h := h.2
      refine x_get C hW (t := 12) (k := 48) t1 kl_12 (by decide) fl_X12_138 (v := rv b0 (mR σ l0 48)) rfl dX12_writeUnit_277 ?_
      refine lv_bipush (v := (16 : Int32)) hx hb dX12_writeUnit_280 (by decide) ?_
      refine x_iload_n C hl dX12_writeUnit_282 rfl ?_
      refine lv_imul hx hb dX12_writeUnit_283 ?_
      refine x_iload C hl dX12_writeUnit_284 rfl ?_
      refine lv_iadd hx hb dX12_writeUnit_286 ?_
      refine x_aload_n C hl dX12_writeUnit_287 rfl ?_
      refine x_get C hW (t := 12) (k := 47) t1 kl_12 (by decide) fl_X12_135 (v := rv b0 (mR σ l0 47)) rfl dX12_writeUnit_288 ?_
      refine lv_bipush (v := (16 : Int32)) hx hb dX12_writeUnit_291 (by decide) ?_
      refine x_iload_n C hl dX12_writeUnit_293 rfl ?_
      refine lv_imul hx hb dX12_writeUnit_294 ?_
      refine x_iload C hl dX12_writeUnit_295 rfl ?_
      refine lv_iadd hx hb dX12_writeUnit_297 ?_
      have t2 := h.1
      replace h := h.2
      have v3 := h.1
      replace h := h.2
      refine x_iald C hW t2 v3 dX12_writeUnit_298 ?_
      have t4 := h.1
      replace h := h.2
      have v5 := h.1
      replace h := h.2
      refine x_iast C hW hS t4 v5 dX12_writeUnit_299 (fun H locs hW hS => ?_)
      obtain ⟨s6, e_s6⟩ : ∃ z : Mem, z = (sI σ (mR σ l0 48) (((16 : Int32) * l3) + l4).toNatClampNeg (mI σ (mR σ l0 47) (((16 : Int32) * l3) + l4).toNatClampNeg)) := ⟨_, rfl⟩
      replace h := h s6 e_s6
      replace hW : Wd G D tc b0 s6 H := by rw [e_s6]; exact hW
      refine x_iinc C hl dX12_writeUnit_300 rfl (v := (1 : Int32)) (by decide) (by decide) rfl (fun ls hl => ?_)
      refine lv_goto hx hb dX12_writeUnit_303 (tgt := 269) rfl ?_
      exact hK269 _ _ _ _ _ hS hW (hl.keep [true, true, true, true, true] rfl) h
set_option maxRecDepth 20000 in
set_option maxHeartbeats 4000000 in
theorem t_X12_writeUnit_269 {p : Program} {l : Launch} {e : Env} {s : State} {m : MethodId} {args : Array Value} {below : List Frame} {meth : Method} {c : Code} {H : Heap} {locs : List Loc} {D : va_G} {tc : Nat → ClassId} {b0 : Nat} {ls : Array Slot} {G : Lay} {Qx : Int32 → Mem → Prop} {l0 : Nat} {l1 : Int32} {l2 : Int32} {l3 : Int32} {l4 : Int32}  {K167 : Int32 × Mem → Prop} {σ : Mem} (C : Cx p s m args meth c cX12_writeUnit RX12 5 D tc b0) (hr : meth.sig.returnType = (some FieldType.int)) (hK167 : ∀ (x2 : Int32) (σ : Mem) (H : Heap) (locs : List Loc) (ls : Array Slot), va_S (AA b0) s.heap H locs → Wd G D tc b0 σ H → hL b0 ls 5 [some (.inr (.inr l0)), some (.inl l1), some (.inl x2), none, none] → K167 (x2, σ) → W p l e rm_X12_writeUnit s m args below meth c H locs 0 0 (MQ below (va_Qi Qx (fun u t => Pw G D tc b0 u t) (AA b0)) args s 0 0 (AA b0)) (F0 m 167 ls [])) (hS : va_S (AA b0) s.heap H locs) (hW : Wd G D tc b0 σ H) (hl : hL b0 ls 5 [some (.inr (.inr l0)), some (.inl l1), some (.inl l2), some (.inl l3), some (.inl l4)]) (h : X_X12_writeUnit_269 G Qx K167 l0 l1 l2 l3 l4 σ) : W p l e rm_X12_writeUnit s m args below meth c H locs 0 0 (MQ below (va_Qi Qx (fun u t => Pw G D tc b0 u t) (AA b0)) args s 0 0 (AA b0)) (F0 m 269 ls []) := by
  obtain ⟨n, h⟩ := h
  exact t_X12_writeUnit_269_n C hr hK167 n l4 σ H locs ls hS hW hl h
set_option maxRecDepth 20000 in
set_option maxHeartbeats 4000000 in
theorem t_X12_writeUnit_232 {p : Program} {l : Launch} {e : Env} {s : State} {m : MethodId} {args : Array Value} {below : List Frame} {meth : Method} {c : Code} {H : Heap} {locs : List Loc} {D : va_G} {tc : Nat → ClassId} {b0 : Nat} {ls : Array Slot} {G : Lay} {Qx : Int32 → Mem → Prop} {l0 : Nat} {l1 : Int32} {l2 : Int32} {l3 : Int32}  {K167 : Int32 × Mem → Prop} {σ : Mem} (C : Cx p s m args meth c cX12_writeUnit RX12 5 D tc b0) (hr : meth.sig.returnType = (some FieldType.int)) (hK167 : ∀ (x2 : Int32) (σ : Mem) (H : Heap) (locs : List Loc) (ls : Array Slot), va_S (AA b0) s.heap H locs → Wd G D tc b0 σ H → hL b0 ls 5 [some (.inr (.inr l0)), some (.inl l1), some (.inl x2), none, none] → K167 (x2, σ) → W p l e rm_X12_writeUnit s m args below meth c H locs 0 0 (MQ below (va_Qi Qx (fun u t => Pw G D tc b0 u t) (AA b0)) args s 0 0 (AA b0)) (F0 m 167 ls [])) (hS : va_S (AA b0) s.heap H locs) (hW : Wd G D tc b0 σ H) (hl : hL b0 ls 5 [some (.inr (.inr l0)), some (.inl l1), some (.inl l2), some (.inl l3), none]) (h : X_X12_writeUnit_232 G Qx K167 l0 l1 l2 l3  σ) : W p l e rm_X12_writeUnit s m args below meth c H locs 0 0 (MQ below (va_Qi Qx (fun u t => Pw G D tc b0 u t) (AA b0)) args s 0 0 (AA b0)) (F0 m 232 ls []) := by
  have hx := C.1
  have hb := C.2.1
  unfold X_X12_writeUnit_232 at h
  refine x_aload_n C hl dX12_writeUnit_232 rfl ?_
  have t1 := h.1
  replace h := h.2
  refine x_get C hW (t := 12) (k := 42) t1 kl_12 (by decide) fl_X12_120 (v := rv b0 (mR σ l0 42)) rfl dX12_writeUnit_233 ?_
  refine x_iload_n C hl dX12_writeUnit_236 rfl ?_
  refine lv_iconst (v := (1 : Int32)) hx hb dX12_writeUnit_237 (by decide) ?_
  have t2 := h.1
  replace h := h.2
  have v3 := h.1
  replace h := h.2
  refine x_iast C hW hS t2 v3 dX12_writeUnit_238 (fun H locs hW hS => ?_)
  obtain ⟨s4, e_s4⟩ : ∃ z : Mem, z = (sI σ (mR σ l0 42) l3.toNatClampNeg (1 : Int32)) := ⟨_, rfl⟩
  replace h := h s4 e_s4
  replace hW : Wd G D tc b0 s4 H := by rw [e_s4]; exact hW
  refine x_aload_n C hl dX12_writeUnit_239 rfl ?_
  refine x_get C hW (t := 12) (k := 46) t1 kl_12 (by decide) fl_X12_132 (v := rv b0 (mR s4 l0 46)) rfl dX12_writeUnit_240 ?_
  refine x_iload_n C hl dX12_writeUnit_243 rfl ?_
  refine x_aload_n C hl dX12_writeUnit_244 rfl ?_
  refine x_get C hW (t := 12) (k := 30) t1 kl_12 (by decide) fl_X12_86 (v := rv b0 (mR s4 l0 30)) rfl dX12_writeUnit_245 ?_
  refine x_aload_n C hl dX12_writeUnit_248 rfl ?_
  refine x_aload_n C hl dX12_writeUnit_249 rfl ?_
  refine x_get C hW (t := 12) (k := 43) t1 kl_12 (by decide) fl_X12_123 (v := rv b0 (mR s4 l0 43)) rfl dX12_writeUnit_250 ?_
  refine x_iload_n C hl dX12_writeUnit_253 rfl ?_
  have t5 := h.1
  replace h := h.2
  have v6 := h.1
  replace h := h.2
  refine x_iald C hW t5 v6 dX12_writeUnit_254 ?_
  refine x_aload_n C hl dX12_writeUnit_255 rfl ?_
  refine x_get C hW (t := 12) (k := 44) t1 kl_12 (by decide) fl_X12_126 (v := rv b0 (mR s4 l0 44)) rfl dX12_writeUnit_256 ?_
  refine x_iload_n C hl dX12_writeUnit_259 rfl ?_
  have t7 := h.1
  replace h := h.2
  have v8 := h.1
  replace h := h.2
  refine x_iald C hW t7 v8 dX12_writeUnit_260 ?_
  refine y_i (x_run (As := [.int (mI s4 (mR s4 l0 43) l3.toNatClampNeg), .int (mI s4 (mR s4 l0 44) l3.toNatClampNeg)]) C hW hS (T_X12_rowOf l l0 (mI s4 (mR s4 l0 43) l3.toNatClampNeg) (mI s4 (mR s4 l0 44) l3.toNatClampNeg) s4 _ h) t1 kl_12 (CW.of yv_X12_rowOf ml_X12_369) ⟨rfl, rfl, ⟨by decide, by decide⟩, by decide, by decide⟩ rfl hl.1 rfl (by simp [rv_cat, cat_i, cat_l]) dX12_writeUnit_261) hS (fun w10 s9 H locs h hW hS => ?_)
  have t11 := h.1
  replace h := h.2
  have v12 := h.1
  replace h := h.2
  refine x_iald C hW t11 v12 dX12_writeUnit_264 ?_
  have t13 := h.1
  replace h := h.2
  have v14 := h.1
  replace h := h.2
  refine x_iast C hW hS t13 v14 dX12_writeUnit_265 (fun H locs hW hS => ?_)
  obtain ⟨s15, e_s15⟩ : ∃ z : Mem, z = (sI s9 (mR s4 l0 46) l3.toNatClampNeg (mI s9 (mR s4 l0 30) w10.toNatClampNeg)) := ⟨_, rfl⟩
  replace h := h s15 e_s15
  replace hW : Wd G D tc b0 s15 H := by rw [e_s15]; exact hW
  refine lv_iconst (v := (0 : Int32)) hx hb dX12_writeUnit_266 (by decide) ?_
  refine x_istore C hl dX12_writeUnit_267 (by decide) rfl (fun ls hl => ?_)
  exact t_X12_writeUnit_269 C hr hK167 hS hW (hl.keep [true, true, true, true, true] rfl) h
set_option maxRecDepth 20000 in
set_option maxHeartbeats 4000000 in
theorem t_X12_writeUnit_167_n {p : Program} {l : Launch} {e : Env} {s : State} {m : MethodId} {args : Array Value} {below : List Frame} {meth : Method} {c : Code} {D : va_G} {tc : Nat → ClassId} {b0 : Nat} {G : Lay} {Qx : Int32 → Mem → Prop} {l0 : Nat} {l1 : Int32} (C : Cx p s m args meth c cX12_writeUnit RX12 5 D tc b0) (hr : meth.sig.returnType = (some FieldType.int)) (n : Nat) : ∀ (l2 : Int32) (σ : Mem) (H : Heap) (locs : List Loc) (ls : Array Slot), va_S (AA b0) s.heap H locs → Wd G D tc b0 σ H → hL b0 ls 5 [some (.inr (.inr l0)), some (.inl l1), some (.inl l2), none, none] → Lp (X_X12_writeUnit_167_s G Qx l0 l1) n (l2, σ) → W p l e rm_X12_writeUnit s m args below meth c H locs 0 0 (MQ below (va_Qi Qx (fun u t => Pw G D tc b0 u t) (AA b0)) args s 0 0 (AA b0)) (F0 m 167 ls []) := by
  have hx := C.1
  have hb := C.2.1
  induction n with
  | zero => intro l2 σ H locs ls hS hW hl h; exact False.elim h
  | succ n hK167 =>
    intro l2 σ H locs ls hS hW hl h
    replace h : X_X12_writeUnit_167_s G Qx l0 l1 (Lp (X_X12_writeUnit_167_s G Qx l0 l1) n) (l2, σ) := h
    unfold X_X12_writeUnit_167_s at h
    refine x_iload_n C hl dX12_writeUnit_167 rfl ?_
    refine x_aload_n C hl dX12_writeUnit_168 rfl ?_
    have t1 := h.1
    replace h := h.2
    refine x_get C hW (t := 12) (k := 40) t1 kl_12 (by decide) fl_X12_114 (v := rv b0 (mR σ l0 40)) rfl dX12_writeUnit_169 ?_
    refine x_iload_n C hl dX12_writeUnit_172 rfl ?_
    have t2 := h.1
    replace h := h.2
    have v3 := h.1
    replace h := h.2
    refine x_iald C hW t2 v3 dX12_writeUnit_173 ?_
    refine lv_icmp_ge hx hb dX12_writeUnit_174 (tgt := 312) rfl (fun hc => ?_) (fun hc => ?_)
    · replace h := h.1 hc
      refine lv_iconst (v := (0 : Int32)) hx hb dX12_writeUnit_312 (by decide) ?_
      exact r_i C hr hW hS h dX12_writeUnit_313
    · replace h := h.2 hc
      refine lv_bipush (v := (60 : Int32)) hx hb dX12_writeUnit_177 (by decide) ?_
      refine x_iload_n C hl dX12_writeUnit_179 rfl ?_
      refine lv_imul hx hb dX12_writeUnit_180 ?_
      refine x_iload_n C hl dX12_writeUnit_181 rfl ?_
      refine lv_iadd hx hb dX12_writeUnit_182 ?_
      refine x_istore_n C hl dX12_writeUnit_183 (by decide) rfl (fun ls hl => ?_)
      refine x_aload_n C hl dX12_writeUnit_184 rfl ?_
      refine x_get C hW (t := 12) (k := 42) t1 kl_12 (by decide) fl_X12_120 (v := rv b0 (mR σ l0 42)) rfl dX12_writeUnit_185 ?_
      refine x_iload_n C hl dX12_writeUnit_188 rfl ?_
      have t4 := h.1
      replace h := h.2
      have v5 := h.1
      replace h := h.2
      refine x_iald C hW t4 v5 dX12_writeUnit_189 ?_
      refine lv_iconst (v := (3 : Int32)) hx hb dX12_writeUnit_190 (by decide) ?_
      refine lv_icmp_ne hx hb dX12_writeUnit_191 (tgt := 204) rfl (fun hc => ?_) (fun hc => ?_)
      · replace h := h.2 hc
        refine x_aload_n C hl dX12_writeUnit_204 rfl ?_
        refine x_get C hW (t := 12) (k := 42) t1 kl_12 (by decide) fl_X12_120 (v := rv b0 (mR σ l0 42)) rfl dX12_writeUnit_205 ?_
        refine x_iload_n C hl dX12_writeUnit_208 rfl ?_
        refine x_iald C hW t4 v5 dX12_writeUnit_209 ?_
        refine lv_iconst (v := (2 : Int32)) hx hb dX12_writeUnit_210 (by decide) ?_
        refine lv_icmp_eq hx hb dX12_writeUnit_211 (tgt := 232) rfl (fun hc => ?_) (fun hc => ?_)
        · replace h := h.1 hc
          exact t_X12_writeUnit_232 C hr hK167 hS hW (hl.keep [true, true, true, true, false] rfl) h
        · replace h := h.2 hc
          refine x_aload_n C hl dX12_writeUnit_214 rfl ?_
          refine x_get C hW (t := 12) (k := 42) t1 kl_12 (by decide) fl_X12_120 (v := rv b0 (mR σ l0 42)) rfl dX12_writeUnit_215 ?_
          refine x_iload_n C hl dX12_writeUnit_218 rfl ?_
          refine x_iald C hW t4 v5 dX12_writeUnit_219 ?_
          refine lv_iconst (v := (1 : Int32)) hx hb dX12_writeUnit_220 (by decide) ?_
          refine lv_icmp_ne hx hb dX12_writeUnit_221 (tgt := 306) rfl (fun hc => ?_) (fun hc => ?_)
          · replace h := h.2 hc
            exact t_X12_writeUnit_306 C hr hK167 hS hW (hl.keep [true, true, true, false, false] rfl) h
          · replace h := h.1 hc
            refine x_aload_n C hl dX12_writeUnit_224 rfl ?_
            refine x_iload_n C hl dX12_writeUnit_225 rfl ?_
            refine y_i (x_run (As := [.int (((60 : Int32) * l1) + l2)]) C hW hS (T_X12_changed l l0 (((60 : Int32) * l1) + l2) σ _ h) t1 kl_12 (CW.of yv_X12_changed ml_X12_462) ⟨rfl, rfl, ⟨by decide, by decide⟩, by decide, by decide⟩ rfl hl.1 rfl (by decide) dX12_writeUnit_226) hS (fun w7 s6 H locs h hW hS => ?_)
            refine lv_if_le hx hb dX12_writeUnit_229 (tgt := 306) rfl (fun hc => ?_) (fun hc => ?_)
            · replace h := h.1 hc
              exact t_X12_writeUnit_306 C hr hK167 hS hW (hl.keep [true, true, true, false, false] rfl) h
            · replace h := h.2 hc
              exact t_X12_writeUnit_232 C hr hK167 hS hW (hl.keep [true, true, true, true, false] rfl) h
      · replace h := h.1 hc
        refine x_aload_n C hl dX12_writeUnit_194 rfl ?_
        refine x_get C hW (t := 12) (k := 42) t1 kl_12 (by decide) fl_X12_120 (v := rv b0 (mR σ l0 42)) rfl dX12_writeUnit_195 ?_
        refine x_iload_n C hl dX12_writeUnit_198 rfl ?_
        refine lv_iconst (v := (4 : Int32)) hx hb dX12_writeUnit_199 (by decide) ?_
        refine x_iast C hW hS t4 v5 dX12_writeUnit_200 (fun H locs hW hS => ?_)
        obtain ⟨s8, e_s8⟩ : ∃ z : Mem, z = (sI σ (mR σ l0 42) (((60 : Int32) * l1) + l2).toNatClampNeg (4 : Int32)) := ⟨_, rfl⟩
        replace h := h s8 e_s8
        replace hW : Wd G D tc b0 s8 H := by rw [e_s8]; exact hW
        refine lv_goto hx hb dX12_writeUnit_201 (tgt := 306) rfl ?_
        exact t_X12_writeUnit_306 C hr hK167 hS hW (hl.keep [true, true, true, false, false] rfl) h
set_option maxRecDepth 20000 in
set_option maxHeartbeats 4000000 in
theorem t_X12_writeUnit_167 {p : Program} {l : Launch} {e : Env} {s : State} {m : MethodId} {args : Array Value} {below : List Frame} {meth : Method} {c : Code} {H : Heap} {locs : List Loc} {D : va_G} {tc : Nat → ClassId} {b0 : Nat} {ls : Array Slot} {G : Lay} {Qx : Int32 → Mem → Prop} {l0 : Nat} {l1 : Int32} {l2 : Int32}  {σ : Mem} (C : Cx p s m args meth c cX12_writeUnit RX12 5 D tc b0) (hr : meth.sig.returnType = (some FieldType.int)) (hS : va_S (AA b0) s.heap H locs) (hW : Wd G D tc b0 σ H) (hl : hL b0 ls 5 [some (.inr (.inr l0)), some (.inl l1), some (.inl l2), none, none]) (h : X_X12_writeUnit_167 G Qx l0 l1 l2 σ) : W p l e rm_X12_writeUnit s m args below meth c H locs 0 0 (MQ below (va_Qi Qx (fun u t => Pw G D tc b0 u t) (AA b0)) args s 0 0 (AA b0)) (F0 m 167 ls []) := by
  obtain ⟨n, h⟩ := h
  exact t_X12_writeUnit_167_n C hr n l2 σ H locs ls hS hW hl h
set_option maxRecDepth 20000 in
set_option maxHeartbeats 4000000 in
theorem t_X12_writeUnit_75_n {p : Program} {l : Launch} {e : Env} {s : State} {m : MethodId} {args : Array Value} {below : List Frame} {meth : Method} {c : Code} {D : va_G} {tc : Nat → ClassId} {b0 : Nat} {G : Lay} {Qx : Int32 → Mem → Prop} {l0 : Nat} {l1 : Int32} (C : Cx p s m args meth c cX12_writeUnit RX12 5 D tc b0) (hr : meth.sig.returnType = (some FieldType.int)) (n : Nat) : ∀ (l2 : Int32) (σ : Mem) (H : Heap) (locs : List Loc) (ls : Array Slot), va_S (AA b0) s.heap H locs → Wd G D tc b0 σ H → hL b0 ls 5 [some (.inr (.inr l0)), some (.inl l1), some (.inl l2), none, none] → Lp (X_X12_writeUnit_75_s G Qx l0 l1) n (l2, σ) → W p l e rm_X12_writeUnit s m args below meth c H locs 0 0 (MQ below (va_Qi Qx (fun u t => Pw G D tc b0 u t) (AA b0)) args s 0 0 (AA b0)) (F0 m 75 ls []) := by
  have hx := C.1
  have hb := C.2.1
  induction n with
  | zero => intro l2 σ H locs ls hS hW hl h; exact False.elim h
  | succ n hK75 =>
    intro l2 σ H locs ls hS hW hl h
    replace h : X_X12_writeUnit_75_s G Qx l0 l1 (Lp (X_X12_writeUnit_75_s G Qx l0 l1) n) (l2, σ) := h
    unfold X_X12_writeUnit_75_s at h
    refine x_iload_n C hl dX12_writeUnit_75 rfl ?_
    refine x_aload_n C hl dX12_writeUnit_76 rfl ?_
    have t1 := h.1
    replace h := h.2
    refine x_get C hW (t := 12) (k := 75) t1 kl_12 (by decide) fl_X12_440 (v := .int (mI σ l0 75)) rfl dX12_writeUnit_77 ?_
    refine lv_icmp_ge hx hb dX12_writeUnit_80 (tgt := 113) rfl (fun hc => ?_) (fun hc => ?_)
    · replace h := h.1 hc
      refine x_aload_n C hl dX12_writeUnit_113 rfl ?_
      refine y_v (x_run (As := []) C hW hS (T_X12_keepRows l l0 σ _ h) t1 kl_12 (CW.of yv_X12_keepRows ml_X12_477) ⟨rfl, rfl, ⟨by decide, by decide⟩, by decide, by decide⟩ rfl hl.1 rfl (by decide) dX12_writeUnit_114) hS (fun s2 H locs h hW hS => ?_)
      refine x_aload_n C hl dX12_writeUnit_117 rfl ?_
      refine x_iload_n C hl dX12_writeUnit_118 rfl ?_
      refine y_i (x_run (As := [.int l1]) C hW hS (T_X12_insertAll l l0 l1 s2 _ h) t1 kl_12 (CW.of yv_X12_insertAll ml_X12_480) ⟨rfl, rfl, ⟨by decide, by decide⟩, by decide, by decide⟩ rfl hl.1 rfl (by decide) dX12_writeUnit_119) hS (fun w4 s3 H locs h hW hS => ?_)
      refine lv_if_eq hx hb dX12_writeUnit_122 (tgt := 141) rfl (fun hc => ?_) (fun hc => ?_)
      · replace h := h.1 hc
        exact t_X12_writeUnit_141 C hr hS hW (hl.keep [true, true, false, false, false] rfl) h
      · replace h := h.2 hc
        refine x_aload_n C hl dX12_writeUnit_125 rfl ?_
        refine x_iload_n C hl dX12_writeUnit_126 rfl ?_
        refine y_i (x_run (As := [.int l1]) C hW hS (T_X12_changeAll l l0 l1 s3 _ h) t1 kl_12 (CW.of yv_X12_changeAll ml_X12_483) ⟨rfl, rfl, ⟨by decide, by decide⟩, by decide, by decide⟩ rfl hl.1 rfl (by decide) dX12_writeUnit_127) hS (fun w6 s5 H locs h hW hS => ?_)
        refine lv_if_eq hx hb dX12_writeUnit_130 (tgt := 141) rfl (fun hc => ?_) (fun hc => ?_)
        · replace h := h.1 hc
          exact t_X12_writeUnit_141 C hr hS hW (hl.keep [true, true, false, false, false] rfl) h
        · replace h := h.2 hc
          refine x_aload_n C hl dX12_writeUnit_133 rfl ?_
          refine x_iload_n C hl dX12_writeUnit_134 rfl ?_
          refine y_i (x_run (As := [.int l1]) C hW hS (T_X12_deleteAll l l0 l1 s5 _ h) t1 kl_12 (CW.of yv_X12_deleteAll ml_X12_486) ⟨rfl, rfl, ⟨by decide, by decide⟩, by decide, by decide⟩ rfl hl.1 rfl (by decide) dX12_writeUnit_135) hS (fun w8 s7 H locs h hW hS => ?_)
          refine lv_if_ne hx hb dX12_writeUnit_138 (tgt := 165) rfl (fun hc => ?_) (fun hc => ?_)
          · replace h := h.2 hc
            refine lv_iconst (v := (0 : Int32)) hx hb dX12_writeUnit_165 (by decide) ?_
            refine x_istore_n C hl dX12_writeUnit_166 (by decide) rfl (fun ls hl => ?_)
            exact t_X12_writeUnit_167 C hr hS hW (hl.keep [true, true, true, false, false] rfl) h
          · replace h := h.1 hc
            exact t_X12_writeUnit_141 C hr hS hW (hl.keep [true, true, false, false, false] rfl) h
    · replace h := h.2 hc
      refine x_aload_n C hl dX12_writeUnit_83 rfl ?_
      refine x_aload_n C hl dX12_writeUnit_84 rfl ?_
      refine x_get C hW (t := 12) (k := 74) t1 kl_12 (by decide) fl_X12_181 (v := rv b0 (mR σ l0 74)) rfl dX12_writeUnit_85 ?_
      refine x_iload_n C hl dX12_writeUnit_88 rfl ?_
      have t9 := h.1
      replace h := h.2
      have v10 := h.1
      replace h := h.2
      refine x_iald C hW t9 v10 dX12_writeUnit_89 ?_
      refine y_i (x_run (As := [.int (mI σ (mR σ l0 74) l2.toNatClampNeg)]) C hW hS (T_X12_changed l l0 (mI σ (mR σ l0 74) l2.toNatClampNeg) σ _ h) t1 kl_12 (CW.of yv_X12_changed ml_X12_462) ⟨rfl, rfl, ⟨by decide, by decide⟩, by decide, by decide⟩ rfl hl.1 rfl (by decide) dX12_writeUnit_90) hS (fun w12 s11 H locs h hW hS => ?_)
      refine lv_if_le hx hb dX12_writeUnit_93 (tgt := 107) rfl (fun hc => ?_) (fun hc => ?_)
      · replace h := h.1 hc
        exact t_X12_writeUnit_107 C hr hK75 hS hW (hl.keep [true, true, true, false, false] rfl) h
      · replace h := h.2 hc
        refine x_aload_n C hl dX12_writeUnit_96 rfl ?_
        refine x_aload_n C hl dX12_writeUnit_97 rfl ?_
        refine x_get C hW (t := 12) (k := 74) t1 kl_12 (by decide) fl_X12_181 (v := rv b0 (mR s11 l0 74)) rfl dX12_writeUnit_98 ?_
        refine x_iload_n C hl dX12_writeUnit_101 rfl ?_
        have t13 := h.1
        replace h := h.2
        have v14 := h.1
        replace h := h.2
        refine x_iald C hW t13 v14 dX12_writeUnit_102 ?_
        refine lv_iconst (v := (1 : Int32)) hx hb dX12_writeUnit_103 (by decide) ?_
        refine y_v (x_run (As := [.int (mI s11 (mR s11 l0 74) l2.toNatClampNeg), .int (1 : Int32)]) C hW hS (T_X12_hooks l l0 (mI s11 (mR s11 l0 74) l2.toNatClampNeg) (1 : Int32) s11 _ h) t1 kl_12 (CW.of yv_X12_hooks ml_X12_474) ⟨rfl, rfl, ⟨by decide, by decide⟩, by decide, by decide⟩ rfl hl.1 rfl (by decide) dX12_writeUnit_104) hS (fun s15 H locs h hW hS => ?_)
        exact t_X12_writeUnit_107 C hr hK75 hS hW (hl.keep [true, true, true, false, false] rfl) h
set_option maxRecDepth 20000 in
set_option maxHeartbeats 4000000 in
theorem t_X12_writeUnit_75 {p : Program} {l : Launch} {e : Env} {s : State} {m : MethodId} {args : Array Value} {below : List Frame} {meth : Method} {c : Code} {H : Heap} {locs : List Loc} {D : va_G} {tc : Nat → ClassId} {b0 : Nat} {ls : Array Slot} {G : Lay} {Qx : Int32 → Mem → Prop} {l0 : Nat} {l1 : Int32} {l2 : Int32}  {σ : Mem} (C : Cx p s m args meth c cX12_writeUnit RX12 5 D tc b0) (hr : meth.sig.returnType = (some FieldType.int)) (hS : va_S (AA b0) s.heap H locs) (hW : Wd G D tc b0 σ H) (hl : hL b0 ls 5 [some (.inr (.inr l0)), some (.inl l1), some (.inl l2), none, none]) (h : X_X12_writeUnit_75 G Qx l0 l1 l2 σ) : W p l e rm_X12_writeUnit s m args below meth c H locs 0 0 (MQ below (va_Qi Qx (fun u t => Pw G D tc b0 u t) (AA b0)) args s 0 0 (AA b0)) (F0 m 75 ls []) := by
  obtain ⟨n, h⟩ := h
  exact t_X12_writeUnit_75_n C hr n l2 σ H locs ls hS hW hl h
set_option maxRecDepth 20000 in
set_option maxHeartbeats 4000000 in
theorem t_X12_writeUnit_40_n {p : Program} {l : Launch} {e : Env} {s : State} {m : MethodId} {args : Array Value} {below : List Frame} {meth : Method} {c : Code} {D : va_G} {tc : Nat → ClassId} {b0 : Nat} {G : Lay} {Qx : Int32 → Mem → Prop} {l0 : Nat} {l1 : Int32} (C : Cx p s m args meth c cX12_writeUnit RX12 5 D tc b0) (hr : meth.sig.returnType = (some FieldType.int)) (n : Nat) : ∀ (l2 : Int32) (σ : Mem) (H : Heap) (locs : List Loc) (ls : Array Slot), va_S (AA b0) s.heap H locs → Wd G D tc b0 σ H → hL b0 ls 5 [some (.inr (.inr l0)), some (.inl l1), some (.inl l2), none, none] → Lp (X_X12_writeUnit_40_s G Qx l0 l1) n (l2, σ) → W p l e rm_X12_writeUnit s m args below meth c H locs 0 0 (MQ below (va_Qi Qx (fun u t => Pw G D tc b0 u t) (AA b0)) args s 0 0 (AA b0)) (F0 m 40 ls []) := by
  have hx := C.1
  have hb := C.2.1
  induction n with
  | zero => intro l2 σ H locs ls hS hW hl h; exact False.elim h
  | succ n hK40 =>
    intro l2 σ H locs ls hS hW hl h
    replace h : X_X12_writeUnit_40_s G Qx l0 l1 (Lp (X_X12_writeUnit_40_s G Qx l0 l1) n) (l2, σ) := h
    unfold X_X12_writeUnit_40_s at h
    refine x_iload_n C hl dX12_writeUnit_40 rfl ?_
    refine x_aload_n C hl dX12_writeUnit_41 rfl ?_
    have t1 := h.1
    replace h := h.2
    refine x_get C hW (t := 12) (k := 75) t1 kl_12 (by decide) fl_X12_440 (v := .int (mI σ l0 75)) rfl dX12_writeUnit_42 ?_
    refine lv_icmp_ge hx hb dX12_writeUnit_45 (tgt := 65) rfl (fun hc => ?_) (fun hc => ?_)
    · replace h := h.1 hc
      refine x_aload_n C hl dX12_writeUnit_65 rfl ?_
      refine x_iload_n C hl dX12_writeUnit_66 rfl ?_
      refine lv_iconst (v := (0 : Int32)) hx hb dX12_writeUnit_67 (by decide) ?_
      refine lv_iconst (v := (1 : Int32)) hx hb dX12_writeUnit_68 (by decide) ?_
      refine lv_iconst (v := (0 : Int32)) hx hb dX12_writeUnit_69 (by decide) ?_
      refine y_v (x_run (As := [.int l1, .int (0 : Int32), .int (1 : Int32), .int (0 : Int32)]) C hW hS (T_X12_inOrder l l0 l1 (0 : Int32) (1 : Int32) (0 : Int32) σ _ h) t1 kl_12 (CW.of yv_X12_inOrder ml_X12_446) ⟨rfl, rfl, ⟨by decide, by decide⟩, by decide, by decide⟩ rfl hl.1 rfl (by decide) dX12_writeUnit_70) hS (fun s2 H locs h hW hS => ?_)
      refine lv_iconst (v := (0 : Int32)) hx hb dX12_writeUnit_73 (by decide) ?_
      refine x_istore_n C hl dX12_writeUnit_74 (by decide) rfl (fun ls hl => ?_)
      exact t_X12_writeUnit_75 C hr hS hW (hl.keep [true, true, true, false, false] rfl) h
    · replace h := h.2 hc
      refine x_aload_n C hl dX12_writeUnit_48 rfl ?_
      refine x_aload_n C hl dX12_writeUnit_49 rfl ?_
      refine x_get C hW (t := 12) (k := 74) t1 kl_12 (by decide) fl_X12_181 (v := rv b0 (mR σ l0 74)) rfl dX12_writeUnit_50 ?_
      refine x_iload_n C hl dX12_writeUnit_53 rfl ?_
      have t3 := h.1
      replace h := h.2
      have v4 := h.1
      replace h := h.2
      refine x_iald C hW t3 v4 dX12_writeUnit_54 ?_
      refine lv_iconst (v := (0 : Int32)) hx hb dX12_writeUnit_55 (by decide) ?_
      refine y_v (x_run (As := [.int (mI σ (mR σ l0 74) l2.toNatClampNeg), .int (0 : Int32)]) C hW hS (T_X12_hooks l l0 (mI σ (mR σ l0 74) l2.toNatClampNeg) (0 : Int32) σ _ h) t1 kl_12 (CW.of yv_X12_hooks ml_X12_474) ⟨rfl, rfl, ⟨by decide, by decide⟩, by decide, by decide⟩ rfl hl.1 rfl (by decide) dX12_writeUnit_56) hS (fun s5 H locs h hW hS => ?_)
      refine x_iinc C hl dX12_writeUnit_59 rfl (v := (1 : Int32)) (by decide) (by decide) rfl (fun ls hl => ?_)
      refine lv_goto hx hb dX12_writeUnit_62 (tgt := 40) rfl ?_
      exact hK40 _ _ _ _ _ hS hW (hl.keep [true, true, true, false, false] rfl) h
set_option maxRecDepth 20000 in
set_option maxHeartbeats 4000000 in
theorem t_X12_writeUnit_40 {p : Program} {l : Launch} {e : Env} {s : State} {m : MethodId} {args : Array Value} {below : List Frame} {meth : Method} {c : Code} {H : Heap} {locs : List Loc} {D : va_G} {tc : Nat → ClassId} {b0 : Nat} {ls : Array Slot} {G : Lay} {Qx : Int32 → Mem → Prop} {l0 : Nat} {l1 : Int32} {l2 : Int32}  {σ : Mem} (C : Cx p s m args meth c cX12_writeUnit RX12 5 D tc b0) (hr : meth.sig.returnType = (some FieldType.int)) (hS : va_S (AA b0) s.heap H locs) (hW : Wd G D tc b0 σ H) (hl : hL b0 ls 5 [some (.inr (.inr l0)), some (.inl l1), some (.inl l2), none, none]) (h : X_X12_writeUnit_40 G Qx l0 l1 l2 σ) : W p l e rm_X12_writeUnit s m args below meth c H locs 0 0 (MQ below (va_Qi Qx (fun u t => Pw G D tc b0 u t) (AA b0)) args s 0 0 (AA b0)) (F0 m 40 ls []) := by
  obtain ⟨n, h⟩ := h
  exact t_X12_writeUnit_40_n C hr n l2 σ H locs ls hS hW hl h
set_option maxRecDepth 20000 in
set_option maxHeartbeats 4000000 in
theorem t_X12_writeUnit_0 {p : Program} {l : Launch} {e : Env} {s : State} {m : MethodId} {args : Array Value} {below : List Frame} {meth : Method} {c : Code} {H : Heap} {locs : List Loc} {D : va_G} {tc : Nat → ClassId} {b0 : Nat} {ls : Array Slot} {G : Lay} {Qx : Int32 → Mem → Prop} {l0 : Nat} {l1 : Int32}  {σ : Mem} (C : Cx p s m args meth c cX12_writeUnit RX12 5 D tc b0) (hr : meth.sig.returnType = (some FieldType.int)) (hS : va_S (AA b0) s.heap H locs) (hW : Wd G D tc b0 σ H) (hl : hL b0 ls 5 [some (.inr (.inr l0)), some (.inl l1), none, none, none]) (h : X_X12_writeUnit_0 G Qx l0 l1  σ) : W p l e rm_X12_writeUnit s m args below meth c H locs 0 0 (MQ below (va_Qi Qx (fun u t => Pw G D tc b0 u t) (AA b0)) args s 0 0 (AA b0)) (F0 m 0 ls []) := by
  have hx := C.1
  have hb := C.2.1
  unfold X_X12_writeUnit_0 at h
  refine x_aload_n C hl dX12_writeUnit_0 rfl ?_
  refine lv_iconst (v := (0 : Int32)) hx hb dX12_writeUnit_1 (by decide) ?_
  have t1 := h.1
  replace h := h.2
  refine x_putI C hW hS (t := 12) (k := 64) t1 kl_12 (by decide) fl_X12_434 rfl rfl rfl rfl dX12_writeUnit_2 (fun H locs hW hS => ?_)
  obtain ⟨s2, e_s2⟩ : ∃ z : Mem, z = (sI σ l0 64 (0 : Int32)) := ⟨_, rfl⟩
  replace h := h s2 e_s2
  replace hW : Wd G D tc b0 s2 H := by rw [e_s2]; exact hW
  refine x_aload_n C hl dX12_writeUnit_5 rfl ?_
  refine lv_iconst (v := (-1 : Int32)) hx hb dX12_writeUnit_6 (by decide) ?_
  refine x_putI C hW hS (t := 12) (k := 65) t1 kl_12 (by decide) fl_X12_157 rfl rfl rfl rfl dX12_writeUnit_7 (fun H locs hW hS => ?_)
  obtain ⟨s3, e_s3⟩ : ∃ z : Mem, z = (sI s2 l0 65 (-1 : Int32)) := ⟨_, rfl⟩
  replace h := h s3 e_s3
  replace hW : Wd G D tc b0 s3 H := by rw [e_s3]; exact hW
  refine x_aload_n C hl dX12_writeUnit_10 rfl ?_
  refine lv_iconst (v := (-1 : Int32)) hx hb dX12_writeUnit_11 (by decide) ?_
  refine x_putI C hW hS (t := 12) (k := 66) t1 kl_12 (by decide) fl_X12_160 rfl rfl rfl rfl dX12_writeUnit_12 (fun H locs hW hS => ?_)
  obtain ⟨s4, e_s4⟩ : ∃ z : Mem, z = (sI s3 l0 66 (-1 : Int32)) := ⟨_, rfl⟩
  replace h := h s4 e_s4
  replace hW : Wd G D tc b0 s4 H := by rw [e_s4]; exact hW
  refine x_aload_n C hl dX12_writeUnit_15 rfl ?_
  refine lv_iconst (v := (-1 : Int32)) hx hb dX12_writeUnit_16 (by decide) ?_
  refine x_putI C hW hS (t := 12) (k := 67) t1 kl_12 (by decide) fl_X12_163 rfl rfl rfl rfl dX12_writeUnit_17 (fun H locs hW hS => ?_)
  obtain ⟨s5, e_s5⟩ : ∃ z : Mem, z = (sI s4 l0 67 (-1 : Int32)) := ⟨_, rfl⟩
  replace h := h s5 e_s5
  replace hW : Wd G D tc b0 s5 H := by rw [e_s5]; exact hW
  refine x_aload_n C hl dX12_writeUnit_20 rfl ?_
  refine lv_iconst (v := (-1 : Int32)) hx hb dX12_writeUnit_21 (by decide) ?_
  refine x_putI C hW hS (t := 12) (k := 68) t1 kl_12 (by decide) fl_X12_166 rfl rfl rfl rfl dX12_writeUnit_22 (fun H locs hW hS => ?_)
  obtain ⟨s6, e_s6⟩ : ∃ z : Mem, z = (sI s5 l0 68 (-1 : Int32)) := ⟨_, rfl⟩
  replace h := h s6 e_s6
  replace hW : Wd G D tc b0 s6 H := by rw [e_s6]; exact hW
  refine x_aload_n C hl dX12_writeUnit_25 rfl ?_
  refine lv_iconst (v := (0 : Int32)) hx hb dX12_writeUnit_26 (by decide) ?_
  refine x_putI C hW hS (t := 12) (k := 69) t1 kl_12 (by decide) fl_X12_437 rfl rfl rfl rfl dX12_writeUnit_27 (fun H locs hW hS => ?_)
  obtain ⟨s7, e_s7⟩ : ∃ z : Mem, z = (sI s6 l0 69 (0 : Int32)) := ⟨_, rfl⟩
  replace h := h s7 e_s7
  replace hW : Wd G D tc b0 s7 H := by rw [e_s7]; exact hW
  refine x_aload_n C hl dX12_writeUnit_30 rfl ?_
  refine x_iload_n C hl dX12_writeUnit_31 rfl ?_
  refine lv_iconst (v := (1 : Int32)) hx hb dX12_writeUnit_32 (by decide) ?_
  refine lv_iconst (v := (0 : Int32)) hx hb dX12_writeUnit_33 (by decide) ?_
  refine lv_iconst (v := (0 : Int32)) hx hb dX12_writeUnit_34 (by decide) ?_
  refine y_v (x_run (As := [.int l1, .int (1 : Int32), .int (0 : Int32), .int (0 : Int32)]) C hW hS (T_X12_inOrder l l0 l1 (1 : Int32) (0 : Int32) (0 : Int32) s7 _ h) t1 kl_12 (CW.of yv_X12_inOrder ml_X12_446) ⟨rfl, rfl, ⟨by decide, by decide⟩, by decide, by decide⟩ rfl hl.1 rfl (by decide) dX12_writeUnit_35) hS (fun s8 H locs h hW hS => ?_)
  refine lv_iconst (v := (0 : Int32)) hx hb dX12_writeUnit_38 (by decide) ?_
  refine x_istore_n C hl dX12_writeUnit_39 (by decide) rfl (fun ls hl => ?_)
  exact t_X12_writeUnit_40 C hr hS hW (hl.keep [true, true, true, false, false] rfl) h
theorem T_X12_writeUnit (l : Launch) {G : Lay} {D : va_G} {tc : Nat → ClassId} {b0 : Nat} (l0 : Nat) (l1 : Int32) (σ : Mem) (Qx : Int32 → Mem → Prop) (h : X_X12_writeUnit G Qx l0 l1 σ) : MI l yX12_writeUnit cX12_writeUnit 5 ((some FieldType.int)) rm_X12_writeUnit G D tc b0 [rv b0 l0, .int l1] σ Qx :=
  x_entry (y := yX12_writeUnit) [.inr (.inr l0), .inl l1] 3 (by decide) (Nat.le_of_ble_eq_true rfl) (fun p e s m args below meth c ls C hr hW hl => t_X12_writeUnit_0 C hr va_S.rf hW (hl.keep [true, true, false, false, false] rfl) h)
