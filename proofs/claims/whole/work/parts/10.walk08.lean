/-! X12_liveOf -/
set_option maxRecDepth 20000 in
set_option maxHeartbeats 4000000 in
theorem t_X12_liveOf_30 {p : Program} {l : Launch} {e : Env} {s : State} {m : MethodId} {args : Array Value} {below : List Frame} {meth : Method} {c : Code} {H : Heap} {locs : List Loc} {D : va_G} {tc : Nat → ClassId} {b0 : Nat} {ls : Array Slot} {G : Lay} {Qx : Int32 → Mem → Prop}  {k0 : Int32} {σ : Mem} (C : Cx p s m args meth c cX12_liveOf RX12 3 D tc b0) (hr : meth.sig.returnType = (some FieldType.int)) (hS : va_S (AA b0) s.heap H locs) (hW : Wd G D tc b0 σ H) (hl : hL b0 ls 3 [none, none, none]) (h : X_X12_liveOf_30 G Qx  k0 σ) : W p l e rm_X12_liveOf s m args below meth c H locs 0 0 (MQ below (va_Qi Qx (fun u t => Pw G D tc b0 u t) (AA b0)) args s 0 0 (AA b0)) (F0 m 30 ls [.int k0]) := by
  have hx := C.1
  have hb := C.2.1
  unfold X_X12_liveOf_30 at h
  exact r_i C hr hW hS h dX12_liveOf_30
set_option maxRecDepth 20000 in
set_option maxHeartbeats 4000000 in
theorem t_X12_liveOf_0 {p : Program} {l : Launch} {e : Env} {s : State} {m : MethodId} {args : Array Value} {below : List Frame} {meth : Method} {c : Code} {H : Heap} {locs : List Loc} {D : va_G} {tc : Nat → ClassId} {b0 : Nat} {ls : Array Slot} {G : Lay} {Qx : Int32 → Mem → Prop} {l0 : Nat} {l1 : Int32}  {σ : Mem} (C : Cx p s m args meth c cX12_liveOf RX12 3 D tc b0) (hr : meth.sig.returnType = (some FieldType.int)) (hS : va_S (AA b0) s.heap H locs) (hW : Wd G D tc b0 σ H) (hl : hL b0 ls 3 [some (.inr (.inr l0)), some (.inl l1), none]) (h : X_X12_liveOf_0 G Qx l0 l1  σ) : W p l e rm_X12_liveOf s m args below meth c H locs 0 0 (MQ below (va_Qi Qx (fun u t => Pw G D tc b0 u t) (AA b0)) args s 0 0 (AA b0)) (F0 m 0 ls []) := by
  have hx := C.1
  have hb := C.2.1
  unfold X_X12_liveOf_0 at h
  refine x_aload_n C hl dX12_liveOf_0 rfl ?_
  refine x_iload_n C hl dX12_liveOf_1 rfl ?_
  have t1 := h.1
  replace h := h.2
  refine y_i (x_run (As := [.int l1]) C hW hS (T_X12_placeOf l l0 l1 σ _ h) t1 kl_12 (CW.of yv_X12_placeOf ml_X12_393) ⟨rfl, rfl, ⟨by decide, by decide⟩, by decide, by decide⟩ rfl hl.1 rfl (by decide) dX12_liveOf_2) hS (fun w3 s2 H locs h hW hS => ?_)
  refine x_istore_n C hl dX12_liveOf_5 (by decide) rfl (fun ls hl => ?_)
  refine x_iload_n C hl dX12_liveOf_6 rfl ?_
  refine lv_if_ge hx hb dX12_liveOf_7 (tgt := 12) rfl (fun hc => ?_) (fun hc => ?_)
  · replace h := h.1 hc
    refine x_aload_n C hl dX12_liveOf_12 rfl ?_
    refine x_iload_n C hl dX12_liveOf_13 rfl ?_
    refine y_v (x_run (As := [.int w3]) C hW hS (T_X12_load l l0 w3 s2 _ h) t1 kl_12 (CW.of yv_X12_load ml_X12_396) ⟨rfl, rfl, ⟨by decide, by decide⟩, by decide, by decide⟩ rfl hl.1 rfl (by decide) dX12_liveOf_14) hS (fun s4 H locs h hW hS => ?_)
    refine x_aload_n C hl dX12_liveOf_17 rfl ?_
    refine x_iload_n C hl dX12_liveOf_18 rfl ?_
    refine y_i (x_run (As := [.int w3]) C hW hS (T_X12_isLive l l0 w3 s4 _ h) t1 kl_12 (CW.of yv_X12_isLive ml_X12_400) ⟨rfl, rfl, ⟨by decide, by decide⟩, by decide, by decide⟩ rfl hl.1 rfl (by decide) dX12_liveOf_19) hS (fun w6 s5 H locs h hW hS => ?_)
    refine lv_if_eq hx hb dX12_liveOf_22 (tgt := 29) rfl (fun hc => ?_) (fun hc => ?_)
    · replace h := h.1 hc
      refine lv_iconst (v := (-1 : Int32)) hx hb dX12_liveOf_29 (by decide) ?_
      exact t_X12_liveOf_30 C hr hS hW (hl.keep [false, false, false] rfl) h
    · replace h := h.2 hc
      refine x_iload_n C hl dX12_liveOf_25 rfl ?_
      refine lv_goto hx hb dX12_liveOf_26 (tgt := 30) rfl ?_
      exact t_X12_liveOf_30 C hr hS hW (hl.keep [false, false, false] rfl) h
  · replace h := h.2 hc
    refine lv_iconst (v := (-1 : Int32)) hx hb dX12_liveOf_10 (by decide) ?_
    exact r_i C hr hW hS h dX12_liveOf_11
theorem T_X12_liveOf (l : Launch) {G : Lay} {D : va_G} {tc : Nat → ClassId} {b0 : Nat} (l0 : Nat) (l1 : Int32) (σ : Mem) (Qx : Int32 → Mem → Prop) (h : X_X12_liveOf G Qx l0 l1 σ) : MI l yX12_liveOf cX12_liveOf 3 ((some FieldType.int)) rm_X12_liveOf G D tc b0 [rv b0 l0, .int l1] σ Qx :=
  x_entry (y := yX12_liveOf) [.inr (.inr l0), .inl l1] 1 (by decide) (Nat.le_of_ble_eq_true rfl) (fun p e s m args below meth c ls C hr hW hl => t_X12_liveOf_0 C hr va_S.rf hW (hl.keep [true, true, false] rfl) h)
/-! X12_make -/
set_option maxRecDepth 20000 in
set_option maxHeartbeats 4000000 in
theorem t_X12_make_16 {p : Program} {l : Launch} {e : Env} {s : State} {m : MethodId} {args : Array Value} {below : List Frame} {meth : Method} {c : Code} {H : Heap} {locs : List Loc} {D : va_G} {tc : Nat → ClassId} {b0 : Nat} {ls : Array Slot} {G : Lay} {Qx : Int32 → Mem → Prop}   {σ : Mem} (C : Cx p s m args meth c cX12_make RX12 5 D tc b0) (hr : meth.sig.returnType = (some FieldType.int)) (hS : va_S (AA b0) s.heap H locs) (hW : Wd G D tc b0 σ H) (hl : hL b0 ls 5 [none, none, none, none, none]) (h : X_X12_make_16 G Qx   σ) : W p l e rm_X12_make s m args below meth c H locs 0 0 (MQ below (va_Qi Qx (fun u t => Pw G D tc b0 u t) (AA b0)) args s 0 0 (AA b0)) (F0 m 16 ls []) := by
  have hx := C.1
  have hb := C.2.1
  unfold X_X12_make_16 at h
  refine lv_iconst (v := (-1 : Int32)) hx hb dX12_make_16 (by decide) ?_
  exact r_i C hr hW hS h dX12_make_17
set_option maxRecDepth 20000 in
set_option maxHeartbeats 4000000 in
theorem t_X12_make_0 {p : Program} {l : Launch} {e : Env} {s : State} {m : MethodId} {args : Array Value} {below : List Frame} {meth : Method} {c : Code} {H : Heap} {locs : List Loc} {D : va_G} {tc : Nat → ClassId} {b0 : Nat} {ls : Array Slot} {G : Lay} {Qx : Int32 → Mem → Prop} {l0 : Nat} {l1 : Int32} {l2 : Int32}  {σ : Mem} (C : Cx p s m args meth c cX12_make RX12 5 D tc b0) (hr : meth.sig.returnType = (some FieldType.int)) (hS : va_S (AA b0) s.heap H locs) (hW : Wd G D tc b0 σ H) (hl : hL b0 ls 5 [some (.inr (.inr l0)), some (.inl l1), some (.inl l2), none, none]) (h : X_X12_make_0 G Qx l0 l1 l2  σ) : W p l e rm_X12_make s m args below meth c H locs 0 0 (MQ below (va_Qi Qx (fun u t => Pw G D tc b0 u t) (AA b0)) args s 0 0 (AA b0)) (F0 m 0 ls []) := by
  have hx := C.1
  have hb := C.2.1
  unfold X_X12_make_0 at h
  refine x_aload_n C hl dX12_make_0 rfl ?_
  refine x_iload_n C hl dX12_make_1 rfl ?_
  have t1 := h.1
  replace h := h.2
  refine y_i (x_run (As := [.int l1]) C hW hS (T_X12_isUnit l l0 l1 σ _ h) t1 kl_12 (CW.of yv_X12_isUnit ml_X12_380) ⟨rfl, rfl, ⟨by decide, by decide⟩, by decide, by decide⟩ rfl hl.1 rfl (by decide) dX12_make_2) hS (fun w3 s2 H locs h hW hS => ?_)
  refine lv_if_eq hx hb dX12_make_5 (tgt := 16) rfl (fun hc => ?_) (fun hc => ?_)
  · replace h := h.1 hc
    exact t_X12_make_16 C hr hS hW (hl.keep [false, false, false, false, false] rfl) h
  · replace h := h.2 hc
    refine x_aload_n C hl dX12_make_8 rfl ?_
    refine x_iload_n C hl dX12_make_9 rfl ?_
    refine y_i (x_run (As := [.int l2]) C hW hS (T_X12_isClass l l0 l2 s2 _ h) t1 kl_12 (CW.of yv_X12_isClass ml_X12_350) ⟨rfl, rfl, ⟨by decide, by decide⟩, by decide, by decide⟩ rfl hl.1 rfl (by decide) dX12_make_10) hS (fun w5 s4 H locs h hW hS => ?_)
    refine lv_if_ne hx hb dX12_make_13 (tgt := 18) rfl (fun hc => ?_) (fun hc => ?_)
    · replace h := h.2 hc
      refine x_aload_n C hl dX12_make_18 rfl ?_
      refine x_get C hW (t := 12) (k := 40) t1 kl_12 (by decide) fl_X12_114 (v := rv b0 (mR s4 l0 40)) rfl dX12_make_19 ?_
      refine x_iload_n C hl dX12_make_22 rfl ?_
      have t6 := h.1
      replace h := h.2
      have v7 := h.1
      replace h := h.2
      refine x_iald C hW t6 v7 dX12_make_23 ?_
      refine lv_bipush (v := (60 : Int32)) hx hb dX12_make_24 (by decide) ?_
      refine lv_icmp_ne hx hb dX12_make_26 (tgt := 32) rfl (fun hc => ?_) (fun hc => ?_)
      · replace h := h.2 hc
        refine x_aload_n C hl dX12_make_32 rfl ?_
        refine x_iload_n C hl dX12_make_33 rfl ?_
        refine y_i (x_run (As := [.int l2]) C hW hS (T_X12_rootOf l l0 l2 s4 _ h) t1 kl_12 (CW.of yv_X12_rootOf ml_X12_353) ⟨rfl, rfl, ⟨by decide, by decide⟩, by decide, by decide⟩ rfl hl.1 rfl (by decide) dX12_make_34) hS (fun w9 s8 H locs h hW hS => ?_)
        refine x_istore_n C hl dX12_make_37 (by decide) rfl (fun ls hl => ?_)
        refine x_aload_n C hl dX12_make_38 rfl ?_
        refine x_get C hW (t := 12) (k := 32) t1 kl_12 (by decide) fl_X12_92 (v := rv b0 (mR s8 l0 32)) rfl dX12_make_39 ?_
        refine x_iload_n C hl dX12_make_42 rfl ?_
        refine lv_dup2_11 hx hb dX12_make_43 rfl (rv_cat _ _) ?_
        have t10 := h.1
        replace h := h.2
        have v11 := h.1
        replace h := h.2
        refine x_iald C hW t10 v11 dX12_make_44 ?_
        refine lv_iconst (v := (1 : Int32)) hx hb dX12_make_45 (by decide) ?_
        refine lv_iadd hx hb dX12_make_46 ?_
        refine x_iast C hW hS t10 v11 dX12_make_47 (fun H locs hW hS => ?_)
        obtain ⟨s12, e_s12⟩ : ∃ z : Mem, z = (sI s8 (mR s8 l0 32) w9.toNatClampNeg ((mI s8 (mR s8 l0 32) w9.toNatClampNeg) + (1 : Int32))) := ⟨_, rfl⟩
        replace h := h s12 e_s12
        replace hW : Wd G D tc b0 s12 H := by rw [e_s12]; exact hW
        refine x_aload_n C hl dX12_make_48 rfl ?_
        refine x_iload_n C hl dX12_make_49 rfl ?_
        refine x_iload_n C hl dX12_make_50 rfl ?_
        refine x_aload_n C hl dX12_make_51 rfl ?_
        refine x_get C hW (t := 12) (k := 32) t1 kl_12 (by decide) fl_X12_92 (v := rv b0 (mR s12 l0 32)) rfl dX12_make_52 ?_
        refine x_iload_n C hl dX12_make_55 rfl ?_
        have t13 := h.1
        replace h := h.2
        have v14 := h.1
        replace h := h.2
        refine x_iald C hW t13 v14 dX12_make_56 ?_
        refine lv_iconst (v := (2 : Int32)) hx hb dX12_make_57 (by decide) ?_
        refine y_i (x_run (As := [.int l1, .int w9, .int (mI s12 (mR s12 l0 32) w9.toNatClampNeg), .int (2 : Int32)]) C hW hS (T_X12_newObject l l0 l1 w9 (mI s12 (mR s12 l0 32) w9.toNatClampNeg) (2 : Int32) s12 _ h) t1 kl_12 (CW.of yv_X12_newObject ml_X12_386) ⟨rfl, rfl, ⟨by decide, by decide⟩, by decide, by decide⟩ rfl hl.1 rfl (by decide) dX12_make_58) hS (fun w16 s15 H locs h hW hS => ?_)
        refine x_istore C hl dX12_make_61 (by decide) rfl (fun ls hl => ?_)
        refine x_aload_n C hl dX12_make_63 rfl ?_
        refine x_get C hW (t := 12) (k := 45) t1 kl_12 (by decide) fl_X12_129 (v := rv b0 (mR s15 l0 45)) rfl dX12_make_64 ?_
        refine x_iload C hl dX12_make_67 rfl ?_
        refine x_iload_n C hl dX12_make_69 rfl ?_
        have t17 := h.1
        replace h := h.2
        have v18 := h.1
        replace h := h.2
        refine x_iast C hW hS t17 v18 dX12_make_70 (fun H locs hW hS => ?_)
        obtain ⟨s19, e_s19⟩ : ∃ z : Mem, z = (sI s15 (mR s15 l0 45) w16.toNatClampNeg l2) := ⟨_, rfl⟩
        replace h := h s19 e_s19
        replace hW : Wd G D tc b0 s19 H := by rw [e_s19]; exact hW
        refine x_iload C hl dX12_make_71 rfl ?_
        refine y_i (x_runS (As := [.int w16]) C hW hS (T_X12_numberOf l w16 s19 _ h) (CS.of yv_X12_numberOf ml_X12_403) ⟨rfl, rfl, ⟨by decide, by decide⟩, by decide, by decide⟩ rfl hl.1 rfl (by decide) dX12_make_73) hS (fun w21 s20 H locs h hW hS => ?_)
        exact r_i C hr hW hS h dX12_make_76
      · replace h := h.1 hc
        refine lv_bipush (v := (-2 : Int32)) hx hb dX12_make_29 (by decide) ?_
        exact r_i C hr hW hS h dX12_make_31
    · replace h := h.1 hc
      exact t_X12_make_16 C hr hS hW (hl.keep [false, false, false, false, false] rfl) h
theorem T_X12_make (l : Launch) {G : Lay} {D : va_G} {tc : Nat → ClassId} {b0 : Nat} (l0 : Nat) (l1 : Int32) (l2 : Int32) (σ : Mem) (Qx : Int32 → Mem → Prop) (h : X_X12_make G Qx l0 l1 l2 σ) : MI l yX12_make cX12_make 5 ((some FieldType.int)) rm_X12_make G D tc b0 [rv b0 l0, .int l1, .int l2] σ Qx :=
  x_entry (y := yX12_make) [.inr (.inr l0), .inl l1, .inl l2] 2 (by decide) (Nat.le_of_ble_eq_true rfl) (fun p e s m args below meth c ls C hr hW hl => t_X12_make_0 C hr va_S.rf hW (hl.keep [true, true, true, false, false] rfl) h)
/-! X12_find -/
set_option maxRecDepth 20000 in
set_option maxHeartbeats 4000000 in
theorem t_X12_find_16 {p : Program} {l : Launch} {e : Env} {s : State} {m : MethodId} {args : Array Value} {below : List Frame} {meth : Method} {c : Code} {H : Heap} {locs : List Loc} {D : va_G} {tc : Nat → ClassId} {b0 : Nat} {ls : Array Slot} {G : Lay} {Qx : Int32 → Mem → Prop}   {σ : Mem} (C : Cx p s m args meth c cX12_find RX12 7 D tc b0) (hr : meth.sig.returnType = (some FieldType.int)) (hS : va_S (AA b0) s.heap H locs) (hW : Wd G D tc b0 σ H) (hl : hL b0 ls 7 [none, none, none, none, none, none, none]) (h : X_X12_find_16 G Qx   σ) : W p l e rm_X12_find s m args below meth c H locs 0 0 (MQ below (va_Qi Qx (fun u t => Pw G D tc b0 u t) (AA b0)) args s 0 0 (AA b0)) (F0 m 16 ls []) := by
  have hx := C.1
  have hb := C.2.1
  unfold X_X12_find_16 at h
  refine lv_iconst (v := (-1 : Int32)) hx hb dX12_find_16 (by decide) ?_
  exact r_i C hr hW hS h dX12_find_17
set_option maxRecDepth 20000 in
set_option maxHeartbeats 4000000 in
theorem t_X12_find_84 {p : Program} {l : Launch} {e : Env} {s : State} {m : MethodId} {args : Array Value} {below : List Frame} {meth : Method} {c : Code} {H : Heap} {locs : List Loc} {D : va_G} {tc : Nat → ClassId} {b0 : Nat} {ls : Array Slot} {G : Lay} {Qx : Int32 → Mem → Prop}  {k0 : Int32} {σ : Mem} (C : Cx p s m args meth c cX12_find RX12 7 D tc b0) (hr : meth.sig.returnType = (some FieldType.int)) (hS : va_S (AA b0) s.heap H locs) (hW : Wd G D tc b0 σ H) (hl : hL b0 ls 7 [none, none, none, none, none, none, none]) (h : X_X12_find_84 G Qx  k0 σ) : W p l e rm_X12_find s m args below meth c H locs 0 0 (MQ below (va_Qi Qx (fun u t => Pw G D tc b0 u t) (AA b0)) args s 0 0 (AA b0)) (F0 m 84 ls [.int k0]) := by
  have hx := C.1
  have hb := C.2.1
  unfold X_X12_find_84 at h
  exact r_i C hr hW hS h dX12_find_84
set_option maxRecDepth 20000 in
set_option maxHeartbeats 4000000 in
theorem t_X12_find_83 {p : Program} {l : Launch} {e : Env} {s : State} {m : MethodId} {args : Array Value} {below : List Frame} {meth : Method} {c : Code} {H : Heap} {locs : List Loc} {D : va_G} {tc : Nat → ClassId} {b0 : Nat} {ls : Array Slot} {G : Lay} {Qx : Int32 → Mem → Prop}   {σ : Mem} (C : Cx p s m args meth c cX12_find RX12 7 D tc b0) (hr : meth.sig.returnType = (some FieldType.int)) (hS : va_S (AA b0) s.heap H locs) (hW : Wd G D tc b0 σ H) (hl : hL b0 ls 7 [none, none, none, none, none, none, none]) (h : X_X12_find_83 G Qx   σ) : W p l e rm_X12_find s m args below meth c H locs 0 0 (MQ below (va_Qi Qx (fun u t => Pw G D tc b0 u t) (AA b0)) args s 0 0 (AA b0)) (F0 m 83 ls []) := by
  have hx := C.1
  have hb := C.2.1
  unfold X_X12_find_83 at h
  refine lv_iconst (v := (-1 : Int32)) hx hb dX12_find_83 (by decide) ?_
  exact t_X12_find_84 C hr hS hW (hl.keep [false, false, false, false, false, false, false] rfl) h
set_option maxRecDepth 20000 in
set_option maxHeartbeats 4000000 in
theorem t_X12_find_115 {p : Program} {l : Launch} {e : Env} {s : State} {m : MethodId} {args : Array Value} {below : List Frame} {meth : Method} {c : Code} {H : Heap} {locs : List Loc} {D : va_G} {tc : Nat → ClassId} {b0 : Nat} {ls : Array Slot} {G : Lay} {Qx : Int32 → Mem → Prop}   {σ : Mem} (C : Cx p s m args meth c cX12_find RX12 7 D tc b0) (hr : meth.sig.returnType = (some FieldType.int)) (hS : va_S (AA b0) s.heap H locs) (hW : Wd G D tc b0 σ H) (hl : hL b0 ls 7 [none, none, none, none, none, none, none]) (h : X_X12_find_115 G Qx   σ) : W p l e rm_X12_find s m args below meth c H locs 0 0 (MQ below (va_Qi Qx (fun u t => Pw G D tc b0 u t) (AA b0)) args s 0 0 (AA b0)) (F0 m 115 ls []) := by
  have hx := C.1
  have hb := C.2.1
  unfold X_X12_find_115 at h
  refine lv_iconst (v := (-1 : Int32)) hx hb dX12_find_115 (by decide) ?_
  exact r_i C hr hW hS h dX12_find_116
set_option maxRecDepth 20000 in
set_option maxHeartbeats 4000000 in
theorem t_X12_find_85 {p : Program} {l : Launch} {e : Env} {s : State} {m : MethodId} {args : Array Value} {below : List Frame} {meth : Method} {c : Code} {H : Heap} {locs : List Loc} {D : va_G} {tc : Nat → ClassId} {b0 : Nat} {ls : Array Slot} {G : Lay} {Qx : Int32 → Mem → Prop} {l0 : Nat} {l1 : Int32} {l2 : Int32} {l3 : Int32} {l4 : Int32}  {σ : Mem} (C : Cx p s m args meth c cX12_find RX12 7 D tc b0) (hr : meth.sig.returnType = (some FieldType.int)) (hS : va_S (AA b0) s.heap H locs) (hW : Wd G D tc b0 σ H) (hl : hL b0 ls 7 [some (.inr (.inr l0)), some (.inl l1), some (.inl l2), some (.inl l3), some (.inl l4), none, none]) (h : X_X12_find_85 G Qx l0 l1 l2 l3 l4  σ) : W p l e rm_X12_find s m args below meth c H locs 0 0 (MQ below (va_Qi Qx (fun u t => Pw G D tc b0 u t) (AA b0)) args s 0 0 (AA b0)) (F0 m 85 ls []) := by
  have hx := C.1
  have hb := C.2.1
  unfold X_X12_find_85 at h
  refine x_aload_n C hl dX12_find_85 rfl ?_
  refine x_iload C hl dX12_find_86 rfl ?_
  refine x_iload_n C hl dX12_find_88 rfl ?_
  have t1 := h.1
  replace h := h.2
  refine y_i (x_run (As := [.int l4, .int l3]) C hW hS (T_X12_rowOf l l0 l4 l3 σ _ h) t1 kl_12 (CW.of yv_X12_rowOf ml_X12_369) ⟨rfl, rfl, ⟨by decide, by decide⟩, by decide, by decide⟩ rfl hl.1 rfl (by decide) dX12_find_89) hS (fun w3 s2 H locs h hW hS => ?_)
  refine x_istore C hl dX12_find_92 (by decide) rfl (fun ls hl => ?_)
  refine x_iload C hl dX12_find_94 rfl ?_
  refine lv_if_lt hx hb dX12_find_96 (tgt := 115) rfl (fun hc => ?_) (fun hc => ?_)
  · replace h := h.1 hc
    exact t_X12_find_115 C hr hS hW (hl.keep [false, false, false, false, false, false, false] rfl) h
  · replace h := h.2 hc
    refine x_aload_n C hl dX12_find_99 rfl ?_
    refine lv_iconst (v := (0 : Int32)) hx hb dX12_find_100 (by decide) ?_
    refine x_aload_n C hl dX12_find_101 rfl ?_
    refine x_get C hW (t := 12) (k := 29) t1 kl_12 (by decide) fl_X12_83 (v := rv b0 (mR s2 l0 29)) rfl dX12_find_102 ?_
    refine x_iload C hl dX12_find_105 rfl ?_
    have t4 := h.1
    replace h := h.2
    have v5 := h.1
    replace h := h.2
    refine x_iald C hW t4 v5 dX12_find_107 ?_
    refine x_iload_n C hl dX12_find_108 rfl ?_
    refine y_i (x_run (As := [.int (0 : Int32), .int (mI s2 (mR s2 l0 29) w3.toNatClampNeg), .int l2]) C hW hS (T_X12_isA l l0 (0 : Int32) (mI s2 (mR s2 l0 29) w3.toNatClampNeg) l2 s2 _ h) t1 kl_12 (CW.of yv_X12_isA ml_X12_315) ⟨rfl, rfl, ⟨by decide, by decide⟩, by decide, by decide⟩ rfl hl.1 rfl (by decide) dX12_find_109) hS (fun w7 s6 H locs h hW hS => ?_)
    refine lv_if_ne hx hb dX12_find_112 (tgt := 117) rfl (fun hc => ?_) (fun hc => ?_)
    · replace h := h.2 hc
      refine x_aload_n C hl dX12_find_117 rfl ?_
      refine x_iload_n C hl dX12_find_118 rfl ?_
      refine x_iload C hl dX12_find_119 rfl ?_
      refine x_iload_n C hl dX12_find_121 rfl ?_
      refine y_i (x_run (As := [.int l1, .int l4, .int l3]) C hW hS (T_X12_meet l l0 l1 l4 l3 s6 _ h) t1 kl_12 (CW.of yv_X12_meet ml_X12_406) ⟨rfl, rfl, ⟨by decide, by decide⟩, by decide, by decide⟩ rfl hl.1 rfl (by decide) dX12_find_122) hS (fun w9 s8 H locs h hW hS => ?_)
      refine x_istore C hl dX12_find_125 (by decide) rfl (fun ls hl => ?_)
      refine x_iload C hl dX12_find_127 rfl ?_
      refine lv_if_ge hx hb dX12_find_129 (tgt := 135) rfl (fun hc => ?_) (fun hc => ?_)
      · replace h := h.1 hc
        refine x_aload_n C hl dX12_find_135 rfl ?_
        refine x_iload C hl dX12_find_136 rfl ?_
        refine y_v (x_run (As := [.int w9]) C hW hS (T_X12_load l l0 w9 s8 _ h) t1 kl_12 (CW.of yv_X12_load ml_X12_396) ⟨rfl, rfl, ⟨by decide, by decide⟩, by decide, by decide⟩ rfl hl.1 rfl (by decide) dX12_find_138) hS (fun s10 H locs h hW hS => ?_)
        refine x_iload C hl dX12_find_141 rfl ?_
        refine y_i (x_runS (As := [.int w9]) C hW hS (T_X12_numberOf l w9 s10 _ h) (CS.of yv_X12_numberOf ml_X12_403) ⟨rfl, rfl, ⟨by decide, by decide⟩, by decide, by decide⟩ rfl hl.1 rfl (by decide) dX12_find_143) hS (fun w12 s11 H locs h hW hS => ?_)
        exact r_i C hr hW hS h dX12_find_146
      · replace h := h.2 hc
        refine lv_bipush (v := (-2 : Int32)) hx hb dX12_find_132 (by decide) ?_
        exact r_i C hr hW hS h dX12_find_134
    · replace h := h.1 hc
      exact t_X12_find_115 C hr hS hW (hl.keep [false, false, false, false, false, false, false] rfl) h
set_option maxRecDepth 20000 in
set_option maxHeartbeats 4000000 in
theorem t_X12_find_0 {p : Program} {l : Launch} {e : Env} {s : State} {m : MethodId} {args : Array Value} {below : List Frame} {meth : Method} {c : Code} {H : Heap} {locs : List Loc} {D : va_G} {tc : Nat → ClassId} {b0 : Nat} {ls : Array Slot} {G : Lay} {Qx : Int32 → Mem → Prop} {l0 : Nat} {l1 : Int32} {l2 : Int32} {l3 : Int32}  {σ : Mem} (C : Cx p s m args meth c cX12_find RX12 7 D tc b0) (hr : meth.sig.returnType = (some FieldType.int)) (hS : va_S (AA b0) s.heap H locs) (hW : Wd G D tc b0 σ H) (hl : hL b0 ls 7 [some (.inr (.inr l0)), some (.inl l1), some (.inl l2), some (.inl l3), none, none, none]) (h : X_X12_find_0 G Qx l0 l1 l2 l3  σ) : W p l e rm_X12_find s m args below meth c H locs 0 0 (MQ below (va_Qi Qx (fun u t => Pw G D tc b0 u t) (AA b0)) args s 0 0 (AA b0)) (F0 m 0 ls []) := by
  have hx := C.1
  have hb := C.2.1
  unfold X_X12_find_0 at h
  refine x_aload_n C hl dX12_find_0 rfl ?_
  refine x_iload_n C hl dX12_find_1 rfl ?_
  have t1 := h.1
  replace h := h.2
  refine y_i (x_run (As := [.int l1]) C hW hS (T_X12_isUnit l l0 l1 σ _ h) t1 kl_12 (CW.of yv_X12_isUnit ml_X12_380) ⟨rfl, rfl, ⟨by decide, by decide⟩, by decide, by decide⟩ rfl hl.1 rfl (by decide) dX12_find_2) hS (fun w3 s2 H locs h hW hS => ?_)
  refine lv_if_eq hx hb dX12_find_5 (tgt := 16) rfl (fun hc => ?_) (fun hc => ?_)
  · replace h := h.1 hc
    exact t_X12_find_16 C hr hS hW (hl.keep [false, false, false, false, false, false, false] rfl) h
  · replace h := h.2 hc
    refine x_aload_n C hl dX12_find_8 rfl ?_
    refine x_iload_n C hl dX12_find_9 rfl ?_
    refine y_i (x_run (As := [.int l2]) C hW hS (T_X12_isClass l l0 l2 s2 _ h) t1 kl_12 (CW.of yv_X12_isClass ml_X12_350) ⟨rfl, rfl, ⟨by decide, by decide⟩, by decide, by decide⟩ rfl hl.1 rfl (by decide) dX12_find_10) hS (fun w5 s4 H locs h hW hS => ?_)
    refine lv_if_ne hx hb dX12_find_13 (tgt := 18) rfl (fun hc => ?_) (fun hc => ?_)
    · replace h := h.2 hc
      refine x_aload_n C hl dX12_find_18 rfl ?_
      refine x_iload_n C hl dX12_find_19 rfl ?_
      refine y_i (x_run (As := [.int l2]) C hW hS (T_X12_rootOf l l0 l2 s4 _ h) t1 kl_12 (CW.of yv_X12_rootOf ml_X12_353) ⟨rfl, rfl, ⟨by decide, by decide⟩, by decide, by decide⟩ rfl hl.1 rfl (by decide) dX12_find_20) hS (fun w7 s6 H locs h hW hS => ?_)
      refine x_istore C hl dX12_find_23 (by decide) rfl (fun ls hl => ?_)
      refine x_aload_n C hl dX12_find_25 rfl ?_
      refine x_iload_n C hl dX12_find_26 rfl ?_
      refine x_iload C hl dX12_find_27 rfl ?_
      refine x_iload_n C hl dX12_find_29 rfl ?_
      refine y_i (x_run (As := [.int l1, .int w7, .int l3]) C hW hS (T_X12_objectOf l l0 l1 w7 l3 s6 _ h) t1 kl_12 (CW.of yv_X12_objectOf ml_X12_383) ⟨rfl, rfl, ⟨by decide, by decide⟩, by decide, by decide⟩ rfl hl.1 rfl (by decide) dX12_find_30) hS (fun w9 s8 H locs h hW hS => ?_)
      refine x_istore C hl dX12_find_33 (by decide) rfl (fun ls hl => ?_)
      refine x_iload C hl dX12_find_35 rfl ?_
      refine lv_if_lt hx hb dX12_find_37 (tgt := 85) rfl (fun hc => ?_) (fun hc => ?_)
      · replace h := h.1 hc
        exact t_X12_find_85 C hr hS hW (hl.keep [true, true, true, true, true, false, false] rfl) h
      · replace h := h.2 hc
        refine x_aload_n C hl dX12_find_40 rfl ?_
        refine x_get C hW (t := 12) (k := 42) t1 kl_12 (by decide) fl_X12_120 (v := rv b0 (mR s8 l0 42)) rfl dX12_find_41 ?_
        refine x_iload C hl dX12_find_44 rfl ?_
        have t10 := h.1
        replace h := h.2
        have v11 := h.1
        replace h := h.2
        refine x_iald C hW t10 v11 dX12_find_46 ?_
        refine lv_if_eq hx hb dX12_find_47 (tgt := 85) rfl (fun hc => ?_) (fun hc => ?_)
        · replace h := h.1 hc
          exact t_X12_find_85 C hr hS hW (hl.keep [true, true, true, true, true, false, false] rfl) h
        · replace h := h.2 hc
          refine x_aload_n C hl dX12_find_50 rfl ?_
          refine x_iload C hl dX12_find_51 rfl ?_
          refine y_i (x_run (As := [.int w9]) C hW hS (T_X12_isLive l l0 w9 s8 _ h) t1 kl_12 (CW.of yv_X12_isLive ml_X12_400) ⟨rfl, rfl, ⟨by decide, by decide⟩, by decide, by decide⟩ rfl hl.1 rfl (by decide) dX12_find_53) hS (fun w13 s12 H locs h hW hS => ?_)
          refine lv_if_eq hx hb dX12_find_56 (tgt := 83) rfl (fun hc => ?_) (fun hc => ?_)
          · replace h := h.1 hc
            exact t_X12_find_83 C hr hS hW (hl.keep [false, false, false, false, false, false, false] rfl) h
          · replace h := h.2 hc
            refine x_aload_n C hl dX12_find_59 rfl ?_
            refine lv_iconst (v := (0 : Int32)) hx hb dX12_find_60 (by decide) ?_
            refine x_aload_n C hl dX12_find_61 rfl ?_
            refine x_get C hW (t := 12) (k := 45) t1 kl_12 (by decide) fl_X12_129 (v := rv b0 (mR s12 l0 45)) rfl dX12_find_62 ?_
            refine x_iload C hl dX12_find_65 rfl ?_
            have t14 := h.1
            replace h := h.2
            have v15 := h.1
            replace h := h.2
            refine x_iald C hW t14 v15 dX12_find_67 ?_
            refine x_iload_n C hl dX12_find_68 rfl ?_
            refine y_i (x_run (As := [.int (0 : Int32), .int (mI s12 (mR s12 l0 45) w9.toNatClampNeg), .int l2]) C hW hS (T_X12_isA l l0 (0 : Int32) (mI s12 (mR s12 l0 45) w9.toNatClampNeg) l2 s12 _ h) t1 kl_12 (CW.of yv_X12_isA ml_X12_315) ⟨rfl, rfl, ⟨by decide, by decide⟩, by decide, by decide⟩ rfl hl.1 rfl (by decide) dX12_find_69) hS (fun w17 s16 H locs h hW hS => ?_)
            refine lv_if_eq hx hb dX12_find_72 (tgt := 83) rfl (fun hc => ?_) (fun hc => ?_)
            · replace h := h.1 hc
              exact t_X12_find_83 C hr hS hW (hl.keep [false, false, false, false, false, false, false] rfl) h
            · replace h := h.2 hc
              refine x_iload C hl dX12_find_75 rfl ?_
              refine y_i (x_runS (As := [.int w9]) C hW hS (T_X12_numberOf l w9 s16 _ h) (CS.of yv_X12_numberOf ml_X12_403) ⟨rfl, rfl, ⟨by decide, by decide⟩, by decide, by decide⟩ rfl hl.1 rfl (by decide) dX12_find_77) hS (fun w19 s18 H locs h hW hS => ?_)
              refine lv_goto hx hb dX12_find_80 (tgt := 84) rfl ?_
              exact t_X12_find_84 C hr hS hW (hl.keep [false, false, false, false, false, false, false] rfl) h
    · replace h := h.1 hc
      exact t_X12_find_16 C hr hS hW (hl.keep [false, false, false, false, false, false, false] rfl) h
theorem T_X12_find (l : Launch) {G : Lay} {D : va_G} {tc : Nat → ClassId} {b0 : Nat} (l0 : Nat) (l1 : Int32) (l2 : Int32) (l3 : Int32) (σ : Mem) (Qx : Int32 → Mem → Prop) (h : X_X12_find G Qx l0 l1 l2 l3 σ) : MI l yX12_find cX12_find 7 ((some FieldType.int)) rm_X12_find G D tc b0 [rv b0 l0, .int l1, .int l2, .int l3] σ Qx :=
  x_entry (y := yX12_find) [.inr (.inr l0), .inl l1, .inl l2, .inl l3] 3 (by decide) (Nat.le_of_ble_eq_true rfl) (fun p e s m args below meth c ls C hr hW hl => t_X12_find_0 C hr va_S.rf hW (hl.keep [true, true, true, true, false, false, false] rfl) h)
/-! X12_object -/
set_option maxRecDepth 20000 in
set_option maxHeartbeats 4000000 in
theorem t_X12_object_19 {p : Program} {l : Launch} {e : Env} {s : State} {m : MethodId} {args : Array Value} {below : List Frame} {meth : Method} {c : Code} {H : Heap} {locs : List Loc} {D : va_G} {tc : Nat → ClassId} {b0 : Nat} {ls : Array Slot} {G : Lay} {Qx : Int32 → Mem → Prop}   {σ : Mem} (C : Cx p s m args meth c cX12_object RX12 4 D tc b0) (hr : meth.sig.returnType = (some FieldType.int)) (hS : va_S (AA b0) s.heap H locs) (hW : Wd G D tc b0 σ H) (hl : hL b0 ls 4 [none, none, none, none]) (h : X_X12_object_19 G Qx   σ) : W p l e rm_X12_object s m args below meth c H locs 0 0 (MQ below (va_Qi Qx (fun u t => Pw G D tc b0 u t) (AA b0)) args s 0 0 (AA b0)) (F0 m 19 ls []) := by
  have hx := C.1
  have hb := C.2.1
  unfold X_X12_object_19 at h
  refine lv_iconst (v := (-1 : Int32)) hx hb dX12_object_19 (by decide) ?_
  exact r_i C hr hW hS h dX12_object_20
set_option maxRecDepth 20000 in
set_option maxHeartbeats 4000000 in
theorem t_X12_object_95 {p : Program} {l : Launch} {e : Env} {s : State} {m : MethodId} {args : Array Value} {below : List Frame} {meth : Method} {c : Code} {H : Heap} {locs : List Loc} {D : va_G} {tc : Nat → ClassId} {b0 : Nat} {ls : Array Slot} {G : Lay} {Qx : Int32 → Mem → Prop}  {k0 : Int32} {σ : Mem} (C : Cx p s m args meth c cX12_object RX12 4 D tc b0) (hr : meth.sig.returnType = (some FieldType.int)) (hS : va_S (AA b0) s.heap H locs) (hW : Wd G D tc b0 σ H) (hl : hL b0 ls 4 [none, none, none, none]) (h : X_X12_object_95 G Qx  k0 σ) : W p l e rm_X12_object s m args below meth c H locs 0 0 (MQ below (va_Qi Qx (fun u t => Pw G D tc b0 u t) (AA b0)) args s 0 0 (AA b0)) (F0 m 95 ls [.int k0]) := by
  have hx := C.1
  have hb := C.2.1
  unfold X_X12_object_95 at h
  exact r_i C hr hW hS h dX12_object_95
set_option maxRecDepth 20000 in
set_option maxHeartbeats 4000000 in
theorem t_X12_object_0 {p : Program} {l : Launch} {e : Env} {s : State} {m : MethodId} {args : Array Value} {below : List Frame} {meth : Method} {c : Code} {H : Heap} {locs : List Loc} {D : va_G} {tc : Nat → ClassId} {b0 : Nat} {ls : Array Slot} {G : Lay} {Qx : Int32 → Mem → Prop} {l0 : Nat} {l1 : Int32} {l2 : Int32}  {σ : Mem} (C : Cx p s m args meth c cX12_object RX12 4 D tc b0) (hr : meth.sig.returnType = (some FieldType.int)) (hS : va_S (AA b0) s.heap H locs) (hW : Wd G D tc b0 σ H) (hl : hL b0 ls 4 [some (.inr (.inr l0)), some (.inl l1), some (.inl l2), none]) (h : X_X12_object_0 G Qx l0 l1 l2  σ) : W p l e rm_X12_object s m args below meth c H locs 0 0 (MQ below (va_Qi Qx (fun u t => Pw G D tc b0 u t) (AA b0)) args s 0 0 (AA b0)) (F0 m 0 ls []) := by
  have hx := C.1
  have hb := C.2.1
  unfold X_X12_object_0 at h
  refine x_aload_n C hl dX12_object_0 rfl ?_
  refine x_iload_n C hl dX12_object_1 rfl ?_
  have t1 := h.1
  replace h := h.2
  refine y_i (x_run (As := [.int l1]) C hW hS (T_X12_placeOf l l0 l1 σ _ h) t1 kl_12 (CW.of yv_X12_placeOf ml_X12_393) ⟨rfl, rfl, ⟨by decide, by decide⟩, by decide, by decide⟩ rfl hl.1 rfl (by decide) dX12_object_2) hS (fun w3 s2 H locs h hW hS => ?_)
  refine x_istore_n C hl dX12_object_5 (by decide) rfl (fun ls hl => ?_)
  refine x_iload_n C hl dX12_object_6 rfl ?_
  refine lv_if_lt hx hb dX12_object_7 (tgt := 19) rfl (fun hc => ?_) (fun hc => ?_)
  · replace h := h.1 hc
    exact t_X12_object_19 C hr hS hW (hl.keep [false, false, false, false] rfl) h
  · replace h := h.2 hc
    refine x_iload_n C hl dX12_object_10 rfl ?_
    refine lv_if_lt hx hb dX12_object_11 (tgt := 19) rfl (fun hc => ?_) (fun hc => ?_)
    · replace h := h.1 hc
      exact t_X12_object_19 C hr hS hW (hl.keep [false, false, false, false] rfl) h
    · replace h := h.2 hc
      refine x_iload_n C hl dX12_object_14 rfl ?_
      refine lv_iconst (v := (3 : Int32)) hx hb dX12_object_15 (by decide) ?_
      refine lv_icmp_le hx hb dX12_object_16 (tgt := 21) rfl (fun hc => ?_) (fun hc => ?_)
      · replace h := h.1 hc
        refine x_iload_n C hl dX12_object_21 rfl ?_
        refine lv_if_ne hx hb dX12_object_22 (tgt := 32) rfl (fun hc => ?_) (fun hc => ?_)
        · replace h := h.2 hc
          refine x_iload_n C hl dX12_object_32 rfl ?_
          refine lv_iconst (v := (1 : Int32)) hx hb dX12_object_33 (by decide) ?_
          refine lv_icmp_ne hx hb dX12_object_34 (tgt := 44) rfl (fun hc => ?_) (fun hc => ?_)
          · replace h := h.2 hc
            refine x_aload_n C hl dX12_object_44 rfl ?_
            refine x_iload_n C hl dX12_object_45 rfl ?_
            refine y_v (x_run (As := [.int w3]) C hW hS (T_X12_load l l0 w3 s2 _ h) t1 kl_12 (CW.of yv_X12_load ml_X12_396) ⟨rfl, rfl, ⟨by decide, by decide⟩, by decide, by decide⟩ rfl hl.1 rfl (by decide) dX12_object_46) hS (fun s4 H locs h hW hS => ?_)
            refine x_aload_n C hl dX12_object_49 rfl ?_
            refine x_get C hW (t := 12) (k := 42) t1 kl_12 (by decide) fl_X12_120 (v := rv b0 (mR s4 l0 42)) rfl dX12_object_50 ?_
            refine x_iload_n C hl dX12_object_53 rfl ?_
            have t5 := h.1
            replace h := h.2
            have v6 := h.1
            replace h := h.2
            refine x_iald C hW t5 v6 dX12_object_54 ?_
            refine lv_iconst (v := (4 : Int32)) hx hb dX12_object_55 (by decide) ?_
            refine lv_icmp_ne hx hb dX12_object_56 (tgt := 61) rfl (fun hc => ?_) (fun hc => ?_)
            · replace h := h.2 hc
              refine x_iload_n C hl dX12_object_61 rfl ?_
              refine lv_iconst (v := (2 : Int32)) hx hb dX12_object_62 (by decide) ?_
              refine lv_icmp_ne hx hb dX12_object_63 (tgt := 75) rfl (fun hc => ?_) (fun hc => ?_)
              · replace h := h.2 hc
                refine x_aload_n C hl dX12_object_75 rfl ?_
                refine x_get C hW (t := 12) (k := 42) t1 kl_12 (by decide) fl_X12_120 (v := rv b0 (mR s4 l0 42)) rfl dX12_object_76 ?_
                refine x_iload_n C hl dX12_object_79 rfl ?_
                refine x_iald C hW t5 v6 dX12_object_80 ?_
                refine lv_iconst (v := (2 : Int32)) hx hb dX12_object_81 (by decide) ?_
                refine lv_icmp_ne hx hb dX12_object_82 (tgt := 89) rfl (fun hc => ?_) (fun hc => ?_)
                · replace h := h.2 hc
                  refine x_aload_n C hl dX12_object_89 rfl ?_
                  refine x_get C hW (t := 12) (k := 46) t1 kl_12 (by decide) fl_X12_132 (v := rv b0 (mR s4 l0 46)) rfl dX12_object_90 ?_
                  refine x_iload_n C hl dX12_object_93 rfl ?_
                  have t7 := h.1
                  replace h := h.2
                  have v8 := h.1
                  replace h := h.2
                  refine x_iald C hW t7 v8 dX12_object_94 ?_
                  exact t_X12_object_95 C hr hS hW (hl.keep [false, false, false, false] rfl) h
                · replace h := h.1 hc
                  refine lv_iconst (v := (0 : Int32)) hx hb dX12_object_85 (by decide) ?_
                  refine lv_goto hx hb dX12_object_86 (tgt := 95) rfl ?_
                  exact t_X12_object_95 C hr hS hW (hl.keep [false, false, false, false] rfl) h
              · replace h := h.1 hc
                refine x_aload_n C hl dX12_object_66 rfl ?_
                refine x_get C hW (t := 12) (k := 45) t1 kl_12 (by decide) fl_X12_129 (v := rv b0 (mR s4 l0 45)) rfl dX12_object_67 ?_
                refine x_iload_n C hl dX12_object_70 rfl ?_
                have t9 := h.1
                replace h := h.2
                have v10 := h.1
                replace h := h.2
                refine x_iald C hW t9 v10 dX12_object_71 ?_
                refine lv_goto hx hb dX12_object_72 (tgt := 95) rfl ?_
                exact t_X12_object_95 C hr hS hW (hl.keep [false, false, false, false] rfl) h
            · replace h := h.1 hc
              refine lv_iconst (v := (-1 : Int32)) hx hb dX12_object_59 (by decide) ?_
              exact r_i C hr hW hS h dX12_object_60
          · replace h := h.1 hc
            refine x_aload_n C hl dX12_object_37 rfl ?_
            refine x_get C hW (t := 12) (k := 44) t1 kl_12 (by decide) fl_X12_126 (v := rv b0 (mR s2 l0 44)) rfl dX12_object_38 ?_
            refine x_iload_n C hl dX12_object_41 rfl ?_
            have t11 := h.1
            replace h := h.2
            have v12 := h.1
            replace h := h.2
            refine x_iald C hW t11 v12 dX12_object_42 ?_
            exact r_i C hr hW hS h dX12_object_43
        · replace h := h.1 hc
          refine x_aload_n C hl dX12_object_25 rfl ?_
          refine x_get C hW (t := 12) (k := 42) t1 kl_12 (by decide) fl_X12_120 (v := rv b0 (mR s2 l0 42)) rfl dX12_object_26 ?_
          refine x_iload_n C hl dX12_object_29 rfl ?_
          have t13 := h.1
          replace h := h.2
          have v14 := h.1
          replace h := h.2
          refine x_iald C hW t13 v14 dX12_object_30 ?_
          exact r_i C hr hW hS h dX12_object_31
      · replace h := h.2 hc
        exact t_X12_object_19 C hr hS hW (hl.keep [false, false, false, false] rfl) h
theorem T_X12_object (l : Launch) {G : Lay} {D : va_G} {tc : Nat → ClassId} {b0 : Nat} (l0 : Nat) (l1 : Int32) (l2 : Int32) (σ : Mem) (Qx : Int32 → Mem → Prop) (h : X_X12_object G Qx l0 l1 l2 σ) : MI l yX12_object cX12_object 4 ((some FieldType.int)) rm_X12_object G D tc b0 [rv b0 l0, .int l1, .int l2] σ Qx :=
  x_entry (y := yX12_object) [.inr (.inr l0), .inl l1, .inl l2] 1 (by decide) (Nat.le_of_ble_eq_true rfl) (fun p e s m args below meth c ls C hr hW hl => t_X12_object_0 C hr va_S.rf hW (hl.keep [true, true, true, false] rfl) h)
/-! X12_value -/
set_option maxRecDepth 20000 in
set_option maxHeartbeats 4000000 in
theorem t_X12_value_29 {p : Program} {l : Launch} {e : Env} {s : State} {m : MethodId} {args : Array Value} {below : List Frame} {meth : Method} {c : Code} {H : Heap} {locs : List Loc} {D : va_G} {tc : Nat → ClassId} {b0 : Nat} {ls : Array Slot} {G : Lay} {Qx : Int64 → Mem → Prop}   {σ : Mem} (C : Cx p s m args meth c cX12_value RX12 7 D tc b0) (hr : meth.sig.returnType = (some FieldType.long)) (hS : va_S (AA b0) s.heap H locs) (hW : Wd G D tc b0 σ H) (hl : hL b0 ls 7 [none, none, none, none, none, none, none]) (h : X_X12_value_29 G Qx   σ) : W p l e rm_X12_value s m args below meth c H locs 0 0 (MQ below (va_Ql Qx (fun u t => Pw G D tc b0 u t) (AA b0)) args s 0 0 (AA b0)) (F0 m 29 ls []) := by
  have hx := C.1
  have hb := C.2.1
  unfold X_X12_value_29 at h
  refine lv_ldc2 (own := RX12) (v := (-9223372036854775808 : Int64)) hx hb C.2.2.2.1 (C.2.2.2.2.1 _ (gc8 230 rfl rfl)) dX12_value_29 ?_
  exact r_l C hr hW hS h dX12_value_32
set_option maxRecDepth 20000 in
set_option maxHeartbeats 4000000 in
theorem t_X12_value_138 {p : Program} {l : Launch} {e : Env} {s : State} {m : MethodId} {args : Array Value} {below : List Frame} {meth : Method} {c : Code} {H : Heap} {locs : List Loc} {D : va_G} {tc : Nat → ClassId} {b0 : Nat} {ls : Array Slot} {G : Lay} {Qx : Int64 → Mem → Prop}  {k0 : Int64} {σ : Mem} (C : Cx p s m args meth c cX12_value RX12 7 D tc b0) (hr : meth.sig.returnType = (some FieldType.long)) (hS : va_S (AA b0) s.heap H locs) (hW : Wd G D tc b0 σ H) (hl : hL b0 ls 7 [none, none, none, none, none, none, none]) (h : X_X12_value_138 G Qx  k0 σ) : W p l e rm_X12_value s m args below meth c H locs 0 0 (MQ below (va_Ql Qx (fun u t => Pw G D tc b0 u t) (AA b0)) args s 0 0 (AA b0)) (F0 m 138 ls [.long k0]) := by
  have hx := C.1
  have hb := C.2.1
  unfold X_X12_value_138 at h
  exact r_l C hr hW hS h dX12_value_138
set_option maxRecDepth 20000 in
set_option maxHeartbeats 4000000 in
theorem t_X12_value_0 {p : Program} {l : Launch} {e : Env} {s : State} {m : MethodId} {args : Array Value} {below : List Frame} {meth : Method} {c : Code} {H : Heap} {locs : List Loc} {D : va_G} {tc : Nat → ClassId} {b0 : Nat} {ls : Array Slot} {G : Lay} {Qx : Int64 → Mem → Prop} {l0 : Nat} {l1 : Int32} {l2 : Int32}  {σ : Mem} (C : Cx p s m args meth c cX12_value RX12 7 D tc b0) (hr : meth.sig.returnType = (some FieldType.long)) (hS : va_S (AA b0) s.heap H locs) (hW : Wd G D tc b0 σ H) (hl : hL b0 ls 7 [some (.inr (.inr l0)), some (.inl l1), some (.inl l2), none, none, none, none]) (h : X_X12_value_0 G Qx l0 l1 l2  σ) : W p l e rm_X12_value s m args below meth c H locs 0 0 (MQ below (va_Ql Qx (fun u t => Pw G D tc b0 u t) (AA b0)) args s 0 0 (AA b0)) (F0 m 0 ls []) := by
  have hx := C.1
  have hb := C.2.1
  unfold X_X12_value_0 at h
  refine x_aload_n C hl dX12_value_0 rfl ?_
  refine x_iload_n C hl dX12_value_1 rfl ?_
  have t1 := h.1
  replace h := h.2
  refine y_i (x_run (As := [.int l1]) C hW hS (T_X12_liveOf l l0 l1 σ _ h) t1 kl_12 (CW.of yv_X12_liveOf ml_X12_409) ⟨rfl, rfl, ⟨by decide, by decide⟩, by decide, by decide⟩ rfl hl.1 rfl (by decide) dX12_value_2) hS (fun w3 s2 H locs h hW hS => ?_)
  refine x_istore_n C hl dX12_value_5 (by decide) rfl (fun ls hl => ?_)
  refine x_iload_n C hl dX12_value_6 rfl ?_
  refine lv_if_lt hx hb dX12_value_7 (tgt := 29) rfl (fun hc => ?_) (fun hc => ?_)
  · replace h := h.1 hc
    exact t_X12_value_29 C hr hS hW (hl.keep [false, false, false, false, false, false, false] rfl) h
  · replace h := h.2 hc
    refine x_iload_n C hl dX12_value_10 rfl ?_
    refine lv_if_lt hx hb dX12_value_11 (tgt := 29) rfl (fun hc => ?_) (fun hc => ?_)
    · replace h := h.1 hc
      exact t_X12_value_29 C hr hS hW (hl.keep [false, false, false, false, false, false, false] rfl) h
    · replace h := h.2 hc
      refine x_iload_n C hl dX12_value_14 rfl ?_
      refine x_aload_n C hl dX12_value_15 rfl ?_
      refine x_get C hW (t := 12) (k := 6) t1 kl_12 (by decide) fl_X12_23 (v := rv b0 (mR s2 l0 6)) rfl dX12_value_16 ?_
      refine x_aload_n C hl dX12_value_19 rfl ?_
      refine x_get C hW (t := 12) (k := 45) t1 kl_12 (by decide) fl_X12_129 (v := rv b0 (mR s2 l0 45)) rfl dX12_value_20 ?_
      refine x_iload_n C hl dX12_value_23 rfl ?_
      have t4 := h.1
      replace h := h.2
      have v5 := h.1
      replace h := h.2
      refine x_iald C hW t4 v5 dX12_value_24 ?_
      have t6 := h.1
      replace h := h.2
      have v7 := h.1
      replace h := h.2
      refine x_iald C hW t6 v7 dX12_value_25 ?_
      refine lv_icmp_lt hx hb dX12_value_26 (tgt := 33) rfl (fun hc => ?_) (fun hc => ?_)
      · replace h := h.1 hc
        refine lv_bipush (v := (16 : Int32)) hx hb dX12_value_33 (by decide) ?_
        refine x_aload_n C hl dX12_value_35 rfl ?_
        refine x_get C hW (t := 12) (k := 45) t1 kl_12 (by decide) fl_X12_129 (v := rv b0 (mR s2 l0 45)) rfl dX12_value_36 ?_
        refine x_iload_n C hl dX12_value_39 rfl ?_
        refine x_iald C hW t4 v5 dX12_value_40 ?_
        refine lv_imul hx hb dX12_value_41 ?_
        refine x_iload_n C hl dX12_value_42 rfl ?_
        refine lv_iadd hx hb dX12_value_43 ?_
        refine x_istore C hl dX12_value_44 (by decide) rfl (fun ls hl => ?_)
        refine x_aload_n C hl dX12_value_46 rfl ?_
        refine x_get C hW (t := 12) (k := 47) t1 kl_12 (by decide) fl_X12_135 (v := rv b0 (mR s2 l0 47)) rfl dX12_value_47 ?_
        refine lv_bipush (v := (16 : Int32)) hx hb dX12_value_50 (by decide) ?_
        refine x_iload_n C hl dX12_value_52 rfl ?_
        refine lv_imul hx hb dX12_value_53 ?_
        refine x_iload_n C hl dX12_value_54 rfl ?_
        refine lv_iadd hx hb dX12_value_55 ?_
        have t8 := h.1
        replace h := h.2
        have v9 := h.1
        replace h := h.2
        refine x_iald C hW t8 v9 dX12_value_56 ?_
        refine x_istore C hl dX12_value_57 (by decide) rfl (fun ls hl => ?_)
        refine x_aload_n C hl dX12_value_59 rfl ?_
        refine x_get C hW (t := 12) (k := 9) t1 kl_12 (by decide) fl_X12_32 (v := rv b0 (mR s2 l0 9)) rfl dX12_value_60 ?_
        refine x_iload C hl dX12_value_63 rfl ?_
        have t10 := h.1
        replace h := h.2
        have v11 := h.1
        replace h := h.2
        refine x_iald C hW t10 v11 dX12_value_65 ?_
        refine lv_iconst (v := (5 : Int32)) hx hb dX12_value_66 (by decide) ?_
        refine lv_icmp_ne hx hb dX12_value_67 (tgt := 74) rfl (fun hc => ?_) (fun hc => ?_)
        · replace h := h.2 hc
          refine x_aload_n C hl dX12_value_74 rfl ?_
          refine x_get C hW (t := 12) (k := 9) t1 kl_12 (by decide) fl_X12_32 (v := rv b0 (mR s2 l0 9)) rfl dX12_value_75 ?_
          refine x_iload C hl dX12_value_78 rfl ?_
          refine x_iald C hW t10 v11 dX12_value_80 ?_
          refine lv_iconst (v := (4 : Int32)) hx hb dX12_value_81 (by decide) ?_
          refine lv_icmp_ge hx hb dX12_value_82 (tgt := 89) rfl (fun hc => ?_) (fun hc => ?_)
          · replace h := h.1 hc
            refine x_iload C hl dX12_value_89 rfl ?_
            refine lv_if_ne hx hb dX12_value_91 (tgt := 98) rfl (fun hc => ?_) (fun hc => ?_)
            · replace h := h.2 hc
              refine x_aload_n C hl dX12_value_98 rfl ?_
              refine x_iload_n C hl dX12_value_99 rfl ?_
              refine lv_bipush (v := (60 : Int32)) hx hb dX12_value_100 (by decide) ?_
              refine lv_idiv hx hb dX12_value_102 (by decide) ?_
              refine x_aload_n C hl dX12_value_103 rfl ?_
              refine x_aload_n C hl dX12_value_104 rfl ?_
              refine x_get C hW (t := 12) (k := 10) t1 kl_12 (by decide) fl_X12_35 (v := rv b0 (mR s2 l0 10)) rfl dX12_value_105 ?_
              refine x_iload C hl dX12_value_108 rfl ?_
              have t12 := h.1
              replace h := h.2
              have v13 := h.1
              replace h := h.2
              refine x_iald C hW t12 v13 dX12_value_110 ?_
              refine y_i (x_run (As := [.int (mI s2 (mR s2 l0 10) (((16 : Int32) * (mI s2 (mR s2 l0 45) w3.toNatClampNeg)) + l2).toNatClampNeg)]) C hW hS (T_X12_rootOf l l0 (mI s2 (mR s2 l0 10) (((16 : Int32) * (mI s2 (mR s2 l0 45) w3.toNatClampNeg)) + l2).toNatClampNeg) s2 _ h) t1 kl_12 (CW.of yv_X12_rootOf ml_X12_353) ⟨rfl, rfl, ⟨by decide, by decide⟩, by decide, by decide⟩ rfl hl.1 rfl (by simp [rv_cat, cat_i, cat_l]) dX12_value_111) hS (fun w15 s14 H locs h hW hS => ?_)
              refine x_iload C hl dX12_value_114 rfl ?_
              refine y_i (x_run (As := [.int (w3 / (60 : Int32)), .int w15, .int (mI s2 (mR s2 l0 47) (((16 : Int32) * w3) + l2).toNatClampNeg)]) C hW hS (T_X12_meet l l0 (w3 / (60 : Int32)) w15 (mI s2 (mR s2 l0 47) (((16 : Int32) * w3) + l2).toNatClampNeg) s14 _ h) t1 kl_12 (CW.of yv_X12_meet ml_X12_406) ⟨rfl, rfl, ⟨by decide, by decide⟩, by decide, by decide⟩ rfl hl.1 rfl (by decide) dX12_value_116) hS (fun w17 s16 H locs h hW hS => ?_)
              refine x_istore C hl dX12_value_119 (by decide) rfl (fun ls hl => ?_)
              refine x_iload C hl dX12_value_121 rfl ?_
              refine lv_if_ge hx hb dX12_value_123 (tgt := 132) rfl (fun hc => ?_) (fun hc => ?_)
              · replace h := h.1 hc
                refine x_iload C hl dX12_value_132 rfl ?_
                refine y_i (x_runS (As := [.int w17]) C hW hS (T_X12_numberOf l w17 s16 _ h) (CS.of yv_X12_numberOf ml_X12_403) ⟨rfl, rfl, ⟨by decide, by decide⟩, by decide, by decide⟩ rfl hl.1 rfl (by decide) dX12_value_134) hS (fun w19 s18 H locs h hW hS => ?_)
                refine lv_i2l hx hb dX12_value_137 rfl ?_
                exact t_X12_value_138 C hr hS hW (hl.keep [false, false, false, false, false, false, false] rfl) h
              · replace h := h.2 hc
                refine lv_ldc2 (own := RX12) (v := (-2 : Int64)) hx hb C.2.2.2.1 (C.2.2.2.2.1 _ (gc8 232 rfl rfl)) dX12_value_126 ?_
                refine lv_goto hx hb dX12_value_129 (tgt := 138) rfl ?_
                exact t_X12_value_138 C hr hS hW (hl.keep [false, false, false, false, false, false, false] rfl) h
            · replace h := h.1 hc
              refine lv_ldc2 (own := RX12) (v := (-1 : Int64)) hx hb C.2.2.2.1 (C.2.2.2.2.1 _ (gc8 231 rfl rfl)) dX12_value_94 ?_
              exact r_l C hr hW hS h dX12_value_97
          · replace h := h.2 hc
            refine x_iload C hl dX12_value_85 rfl ?_
            refine lv_i2l hx hb dX12_value_87 rfl ?_
            exact r_l C hr hW hS h dX12_value_88
        · replace h := h.1 hc
          refine lv_ldc2 (own := RX12) (v := (-9223372036854775808 : Int64)) hx hb C.2.2.2.1 (C.2.2.2.2.1 _ (gc8 230 rfl rfl)) dX12_value_70 ?_
          exact r_l C hr hW hS h dX12_value_73
      · replace h := h.2 hc
        exact t_X12_value_29 C hr hS hW (hl.keep [false, false, false, false, false, false, false] rfl) h
theorem T_X12_value (l : Launch) {G : Lay} {D : va_G} {tc : Nat → ClassId} {b0 : Nat} (l0 : Nat) (l1 : Int32) (l2 : Int32) (σ : Mem) (Qx : Int64 → Mem → Prop) (h : X_X12_value G Qx l0 l1 l2 σ) : ML l yX12_value cX12_value 7 ((some FieldType.long)) rm_X12_value G D tc b0 [rv b0 l0, .int l1, .int l2] σ Qx :=
  x_entry (y := yX12_value) [.inr (.inr l0), .inl l1, .inl l2] 4 (by decide) (Nat.le_of_ble_eq_true rfl) (fun p e s m args below meth c ls C hr hW hl => t_X12_value_0 C hr va_S.rf hW (hl.keep [true, true, true, false, false, false, false] rfl) h)
/-! X12_put -/
set_option maxRecDepth 20000 in
set_option maxHeartbeats 4000000 in
theorem t_X12_put_48 {p : Program} {l : Launch} {e : Env} {s : State} {m : MethodId} {args : Array Value} {below : List Frame} {meth : Method} {c : Code} {H : Heap} {locs : List Loc} {D : va_G} {tc : Nat → ClassId} {b0 : Nat} {ls : Array Slot} {G : Lay} {Qx : Int32 → Mem → Prop}   {σ : Mem} (C : Cx p s m args meth c cX12_put RX12 5 D tc b0) (hr : meth.sig.returnType = (some FieldType.boolean)) (hS : va_S (AA b0) s.heap H locs) (hW : Wd G D tc b0 σ H) (hl : hL b0 ls 5 [none, none, none, none, none]) (h : X_X12_put_48 G Qx   σ) : W p l e rm_X12_put s m args below meth c H locs 0 0 (MQ below (va_Qi Qx (fun u t => Pw G D tc b0 u t) (AA b0)) args s 0 0 (AA b0)) (F0 m 48 ls []) := by
  have hx := C.1
  have hb := C.2.1
  unfold X_X12_put_48 at h
  refine lv_iconst (v := (0 : Int32)) hx hb dX12_put_48 (by decide) ?_
  exact r_z C hr hW hS h.1 h.2 dX12_put_49
set_option maxRecDepth 20000 in
set_option maxHeartbeats 4000000 in
theorem t_X12_put_0 {p : Program} {l : Launch} {e : Env} {s : State} {m : MethodId} {args : Array Value} {below : List Frame} {meth : Method} {c : Code} {H : Heap} {locs : List Loc} {D : va_G} {tc : Nat → ClassId} {b0 : Nat} {ls : Array Slot} {G : Lay} {Qx : Int32 → Mem → Prop} {l0 : Nat} {l1 : Int32} {l2 : Int32} {l3 : Int32}  {σ : Mem} (C : Cx p s m args meth c cX12_put RX12 5 D tc b0) (hr : meth.sig.returnType = (some FieldType.boolean)) (hS : va_S (AA b0) s.heap H locs) (hW : Wd G D tc b0 σ H) (hl : hL b0 ls 5 [some (.inr (.inr l0)), some (.inl l1), some (.inl l2), some (.inl l3), none]) (h : X_X12_put_0 G Qx l0 l1 l2 l3  σ) : W p l e rm_X12_put s m args below meth c H locs 0 0 (MQ below (va_Qi Qx (fun u t => Pw G D tc b0 u t) (AA b0)) args s 0 0 (AA b0)) (F0 m 0 ls []) := by
  have hx := C.1
  have hb := C.2.1
  unfold X_X12_put_0 at h
  refine x_aload_n C hl dX12_put_0 rfl ?_
  refine x_iload_n C hl dX12_put_1 rfl ?_
  have t1 := h.1
  replace h := h.2
  refine y_i (x_run (As := [.int l1]) C hW hS (T_X12_liveOf l l0 l1 σ _ h) t1 kl_12 (CW.of yv_X12_liveOf ml_X12_409) ⟨rfl, rfl, ⟨by decide, by decide⟩, by decide, by decide⟩ rfl hl.1 rfl (by decide) dX12_put_2) hS (fun w3 s2 H locs h hW hS => ?_)
  refine x_istore C hl dX12_put_5 (by decide) rfl (fun ls hl => ?_)
  refine x_iload C hl dX12_put_7 rfl ?_
  refine lv_if_lt hx hb dX12_put_9 (tgt := 48) rfl (fun hc => ?_) (fun hc => ?_)
  · replace h := h.1 hc
    exact t_X12_put_48 C hr hS hW (hl.keep [false, false, false, false, false] rfl) h
  · replace h := h.2 hc
    refine x_iload_n C hl dX12_put_12 rfl ?_
    refine lv_if_lt hx hb dX12_put_13 (tgt := 48) rfl (fun hc => ?_) (fun hc => ?_)
    · replace h := h.1 hc
      exact t_X12_put_48 C hr hS hW (hl.keep [false, false, false, false, false] rfl) h
    · replace h := h.2 hc
      refine x_iload_n C hl dX12_put_16 rfl ?_
      refine x_aload_n C hl dX12_put_17 rfl ?_
      refine x_get C hW (t := 12) (k := 6) t1 kl_12 (by decide) fl_X12_23 (v := rv b0 (mR s2 l0 6)) rfl dX12_put_18 ?_
      refine x_aload_n C hl dX12_put_21 rfl ?_
      refine x_get C hW (t := 12) (k := 45) t1 kl_12 (by decide) fl_X12_129 (v := rv b0 (mR s2 l0 45)) rfl dX12_put_22 ?_
      refine x_iload C hl dX12_put_25 rfl ?_
      have t4 := h.1
      replace h := h.2
      have v5 := h.1
      replace h := h.2
      refine x_iald C hW t4 v5 dX12_put_27 ?_
      have t6 := h.1
      replace h := h.2
      have v7 := h.1
      replace h := h.2
      refine x_iald C hW t6 v7 dX12_put_28 ?_
      refine lv_icmp_ge hx hb dX12_put_29 (tgt := 48) rfl (fun hc => ?_) (fun hc => ?_)
      · replace h := h.1 hc
        exact t_X12_put_48 C hr hS hW (hl.keep [false, false, false, false, false] rfl) h
      · replace h := h.2 hc
        refine x_aload_n C hl dX12_put_32 rfl ?_
        refine x_aload_n C hl dX12_put_33 rfl ?_
        refine x_get C hW (t := 12) (k := 45) t1 kl_12 (by decide) fl_X12_129 (v := rv b0 (mR s2 l0 45)) rfl dX12_put_34 ?_
        refine x_iload C hl dX12_put_37 rfl ?_
        refine x_iald C hW t4 v5 dX12_put_39 ?_
        refine x_iload_n C hl dX12_put_40 rfl ?_
        refine x_iload_n C hl dX12_put_41 rfl ?_
        refine y_i (x_run (As := [.int (mI s2 (mR s2 l0 45) w3.toNatClampNeg), .int l2, .int l3]) C hW hS (T_X12_isValue l l0 (mI s2 (mR s2 l0 45) w3.toNatClampNeg) l2 l3 s2 _ h) t1 kl_12 (CW.of yv_X12_isValue ml_X12_418) ⟨rfl, rfl, ⟨by decide, by decide⟩, by decide, by decide⟩ rfl hl.1 rfl (by decide) dX12_put_42) hS (fun w9 s8 H locs h hW hS => ?_)
        refine lv_if_ne hx hb dX12_put_45 (tgt := 50) rfl (fun hc => ?_) (fun hc => ?_)
        · replace h := h.2 hc
          refine x_aload_n C hl dX12_put_50 rfl ?_
          refine x_get C hW (t := 12) (k := 47) t1 kl_12 (by decide) fl_X12_135 (v := rv b0 (mR s8 l0 47)) rfl dX12_put_51 ?_
          refine lv_bipush (v := (16 : Int32)) hx hb dX12_put_54 (by decide) ?_
          refine x_iload C hl dX12_put_56 rfl ?_
          refine lv_imul hx hb dX12_put_58 ?_
          refine x_iload_n C hl dX12_put_59 rfl ?_
          refine lv_iadd hx hb dX12_put_60 ?_
          refine x_iload_n C hl dX12_put_61 rfl ?_
          have t10 := h.1
          replace h := h.2
          have v11 := h.1
          replace h := h.2
          refine x_iast C hW hS t10 v11 dX12_put_62 (fun H locs hW hS => ?_)
          obtain ⟨s12, e_s12⟩ : ∃ z : Mem, z = (sI s8 (mR s8 l0 47) (((16 : Int32) * w3) + l2).toNatClampNeg l3) := ⟨_, rfl⟩
          replace h := h s12 e_s12
          replace hW : Wd G D tc b0 s12 H := by rw [e_s12]; exact hW
          refine lv_iconst (v := (1 : Int32)) hx hb dX12_put_63 (by decide) ?_
          exact r_z C hr hW hS h.1 h.2 dX12_put_64
        · replace h := h.1 hc
          exact t_X12_put_48 C hr hS hW (hl.keep [false, false, false, false, false] rfl) h
theorem T_X12_put (l : Launch) {G : Lay} {D : va_G} {tc : Nat → ClassId} {b0 : Nat} (l0 : Nat) (l1 : Int32) (l2 : Int32) (l3 : Int32) (σ : Mem) (Qx : Int32 → Mem → Prop) (h : X_X12_put G Qx l0 l1 l2 l3 σ) : MI l yX12_put cX12_put 5 ((some FieldType.boolean)) rm_X12_put G D tc b0 [rv b0 l0, .int l1, .int l2, .int l3] σ Qx :=
  x_entry (y := yX12_put) [.inr (.inr l0), .inl l1, .inl l2, .inl l3] 1 (by decide) (Nat.le_of_ble_eq_true rfl) (fun p e s m args below meth c ls C hr hW hl => t_X12_put_0 C hr va_S.rf hW (hl.keep [true, true, true, true, false] rfl) h)
/-! X12_link -/
set_option maxRecDepth 20000 in
set_option maxHeartbeats 4000000 in
theorem t_X12_link_32 {p : Program} {l : Launch} {e : Env} {s : State} {m : MethodId} {args : Array Value} {below : List Frame} {meth : Method} {c : Code} {H : Heap} {locs : List Loc} {D : va_G} {tc : Nat → ClassId} {b0 : Nat} {ls : Array Slot} {G : Lay} {Qx : Int32 → Mem → Prop}   {σ : Mem} (C : Cx p s m args meth c cX12_link RX12 7 D tc b0) (hr : meth.sig.returnType = (some FieldType.boolean)) (hS : va_S (AA b0) s.heap H locs) (hW : Wd G D tc b0 σ H) (hl : hL b0 ls 7 [none, none, none, none, none, none, none]) (h : X_X12_link_32 G Qx   σ) : W p l e rm_X12_link s m args below meth c H locs 0 0 (MQ below (va_Qi Qx (fun u t => Pw G D tc b0 u t) (AA b0)) args s 0 0 (AA b0)) (F0 m 32 ls []) := by
  have hx := C.1
  have hb := C.2.1
  unfold X_X12_link_32 at h
  refine lv_iconst (v := (0 : Int32)) hx hb dX12_link_32 (by decide) ?_
  exact r_z C hr hW hS h.1 h.2 dX12_link_33
set_option maxRecDepth 20000 in
set_option maxHeartbeats 4000000 in
theorem t_X12_link_106 {p : Program} {l : Launch} {e : Env} {s : State} {m : MethodId} {args : Array Value} {below : List Frame} {meth : Method} {c : Code} {H : Heap} {locs : List Loc} {D : va_G} {tc : Nat → ClassId} {b0 : Nat} {ls : Array Slot} {G : Lay} {Qx : Int32 → Mem → Prop}   {σ : Mem} (C : Cx p s m args meth c cX12_link RX12 7 D tc b0) (hr : meth.sig.returnType = (some FieldType.boolean)) (hS : va_S (AA b0) s.heap H locs) (hW : Wd G D tc b0 σ H) (hl : hL b0 ls 7 [none, none, none, none, none, none, none]) (h : X_X12_link_106 G Qx   σ) : W p l e rm_X12_link s m args below meth c H locs 0 0 (MQ below (va_Qi Qx (fun u t => Pw G D tc b0 u t) (AA b0)) args s 0 0 (AA b0)) (F0 m 106 ls []) := by
  have hx := C.1
  have hb := C.2.1
  unfold X_X12_link_106 at h
  refine lv_iconst (v := (0 : Int32)) hx hb dX12_link_106 (by decide) ?_
  exact r_z C hr hW hS h.1 h.2 dX12_link_107
set_option maxRecDepth 20000 in
set_option maxHeartbeats 4000000 in
theorem t_X12_link_145 {p : Program} {l : Launch} {e : Env} {s : State} {m : MethodId} {args : Array Value} {below : List Frame} {meth : Method} {c : Code} {H : Heap} {locs : List Loc} {D : va_G} {tc : Nat → ClassId} {b0 : Nat} {ls : Array Slot} {G : Lay} {Qx : Int32 → Mem → Prop}   {σ : Mem} (C : Cx p s m args meth c cX12_link RX12 7 D tc b0) (hr : meth.sig.returnType = (some FieldType.boolean)) (hS : va_S (AA b0) s.heap H locs) (hW : Wd G D tc b0 σ H) (hl : hL b0 ls 7 [none, none, none, none, none, none, none]) (h : X_X12_link_145 G Qx   σ) : W p l e rm_X12_link s m args below meth c H locs 0 0 (MQ below (va_Qi Qx (fun u t => Pw G D tc b0 u t) (AA b0)) args s 0 0 (AA b0)) (F0 m 145 ls []) := by
  have hx := C.1
  have hb := C.2.1
  unfold X_X12_link_145 at h
  refine lv_iconst (v := (0 : Int32)) hx hb dX12_link_145 (by decide) ?_
  exact r_z C hr hW hS h.1 h.2 dX12_link_146
set_option maxRecDepth 20000 in
set_option maxHeartbeats 4000000 in
theorem t_X12_link_0 {p : Program} {l : Launch} {e : Env} {s : State} {m : MethodId} {args : Array Value} {below : List Frame} {meth : Method} {c : Code} {H : Heap} {locs : List Loc} {D : va_G} {tc : Nat → ClassId} {b0 : Nat} {ls : Array Slot} {G : Lay} {Qx : Int32 → Mem → Prop} {l0 : Nat} {l1 : Int32} {l2 : Int32} {l3 : Int32}  {σ : Mem} (C : Cx p s m args meth c cX12_link RX12 7 D tc b0) (hr : meth.sig.returnType = (some FieldType.boolean)) (hS : va_S (AA b0) s.heap H locs) (hW : Wd G D tc b0 σ H) (hl : hL b0 ls 7 [some (.inr (.inr l0)), some (.inl l1), some (.inl l2), some (.inl l3), none, none, none]) (h : X_X12_link_0 G Qx l0 l1 l2 l3  σ) : W p l e rm_X12_link s m args below meth c H locs 0 0 (MQ below (va_Qi Qx (fun u t => Pw G D tc b0 u t) (AA b0)) args s 0 0 (AA b0)) (F0 m 0 ls []) := by
  have hx := C.1
  have hb := C.2.1
  unfold X_X12_link_0 at h
  refine x_aload_n C hl dX12_link_0 rfl ?_
  refine x_iload_n C hl dX12_link_1 rfl ?_
  have t1 := h.1
  replace h := h.2
  refine y_i (x_run (As := [.int l1]) C hW hS (T_X12_liveOf l l0 l1 σ _ h) t1 kl_12 (CW.of yv_X12_liveOf ml_X12_409) ⟨rfl, rfl, ⟨by decide, by decide⟩, by decide, by decide⟩ rfl hl.1 rfl (by decide) dX12_link_2) hS (fun w3 s2 H locs h hW hS => ?_)
  refine x_istore C hl dX12_link_5 (by decide) rfl (fun ls hl => ?_)
  refine x_iload C hl dX12_link_7 rfl ?_
  refine lv_if_lt hx hb dX12_link_9 (tgt := 32) rfl (fun hc => ?_) (fun hc => ?_)
  · replace h := h.1 hc
    exact t_X12_link_32 C hr hS hW (hl.keep [false, false, false, false, false, false, false] rfl) h
  · replace h := h.2 hc
    refine x_iload_n C hl dX12_link_12 rfl ?_
    refine lv_if_lt hx hb dX12_link_13 (tgt := 32) rfl (fun hc => ?_) (fun hc => ?_)
    · replace h := h.1 hc
      exact t_X12_link_32 C hr hS hW (hl.keep [false, false, false, false, false, false, false] rfl) h
    · replace h := h.2 hc
      refine x_iload_n C hl dX12_link_16 rfl ?_
      refine x_aload_n C hl dX12_link_17 rfl ?_
      refine x_get C hW (t := 12) (k := 6) t1 kl_12 (by decide) fl_X12_23 (v := rv b0 (mR s2 l0 6)) rfl dX12_link_18 ?_
      refine x_aload_n C hl dX12_link_21 rfl ?_
      refine x_get C hW (t := 12) (k := 45) t1 kl_12 (by decide) fl_X12_129 (v := rv b0 (mR s2 l0 45)) rfl dX12_link_22 ?_
      refine x_iload C hl dX12_link_25 rfl ?_
      have t4 := h.1
      replace h := h.2
      have v5 := h.1
      replace h := h.2
      refine x_iald C hW t4 v5 dX12_link_27 ?_
      have t6 := h.1
      replace h := h.2
      have v7 := h.1
      replace h := h.2
      refine x_iald C hW t6 v7 dX12_link_28 ?_
      refine lv_icmp_lt hx hb dX12_link_29 (tgt := 34) rfl (fun hc => ?_) (fun hc => ?_)
      · replace h := h.1 hc
        refine lv_bipush (v := (16 : Int32)) hx hb dX12_link_34 (by decide) ?_
        refine x_aload_n C hl dX12_link_36 rfl ?_
        refine x_get C hW (t := 12) (k := 45) t1 kl_12 (by decide) fl_X12_129 (v := rv b0 (mR s2 l0 45)) rfl dX12_link_37 ?_
        refine x_iload C hl dX12_link_40 rfl ?_
        refine x_iald C hW t4 v5 dX12_link_42 ?_
        refine lv_imul hx hb dX12_link_43 ?_
        refine x_iload_n C hl dX12_link_44 rfl ?_
        refine lv_iadd hx hb dX12_link_45 ?_
        refine x_istore C hl dX12_link_46 (by decide) rfl (fun ls hl => ?_)
        refine x_aload_n C hl dX12_link_48 rfl ?_
        refine x_get C hW (t := 12) (k := 9) t1 kl_12 (by decide) fl_X12_32 (v := rv b0 (mR s2 l0 9)) rfl dX12_link_49 ?_
        refine x_iload C hl dX12_link_52 rfl ?_
        have t8 := h.1
        replace h := h.2
        have v9 := h.1
        replace h := h.2
        refine x_iald C hW t8 v9 dX12_link_54 ?_
        refine lv_iconst (v := (4 : Int32)) hx hb dX12_link_55 (by decide) ?_
        refine lv_icmp_eq hx hb dX12_link_56 (tgt := 61) rfl (fun hc => ?_) (fun hc => ?_)
        · replace h := h.1 hc
          refine x_iload_n C hl dX12_link_61 rfl ?_
          refine lv_iconst (v := (-1 : Int32)) hx hb dX12_link_62 (by decide) ?_
          refine lv_icmp_ne hx hb dX12_link_63 (tgt := 81) rfl (fun hc => ?_) (fun hc => ?_)
          · replace h := h.2 hc
            refine x_aload_n C hl dX12_link_81 rfl ?_
            refine x_iload_n C hl dX12_link_82 rfl ?_
            refine y_i (x_run (As := [.int l3]) C hW hS (T_X12_placeOf l l0 l3 s2 _ h) t1 kl_12 (CW.of yv_X12_placeOf ml_X12_393) ⟨rfl, rfl, ⟨by decide, by decide⟩, by decide, by decide⟩ rfl hl.1 rfl (by decide) dX12_link_83) hS (fun w11 s10 H locs h hW hS => ?_)
            refine x_istore C hl dX12_link_86 (by decide) rfl (fun ls hl => ?_)
            refine x_iload C hl dX12_link_88 rfl ?_
            refine lv_if_lt hx hb dX12_link_90 (tgt := 106) rfl (fun hc => ?_) (fun hc => ?_)
            · replace h := h.1 hc
              exact t_X12_link_106 C hr hS hW (hl.keep [false, false, false, false, false, false, false] rfl) h
            · replace h := h.2 hc
              refine x_iload C hl dX12_link_93 rfl ?_
              refine lv_bipush (v := (60 : Int32)) hx hb dX12_link_95 (by decide) ?_
              refine lv_idiv hx hb dX12_link_97 (by decide) ?_
              refine x_iload C hl dX12_link_98 rfl ?_
              refine lv_bipush (v := (60 : Int32)) hx hb dX12_link_100 (by decide) ?_
              refine lv_idiv hx hb dX12_link_102 (by decide) ?_
              refine lv_icmp_eq hx hb dX12_link_103 (tgt := 108) rfl (fun hc => ?_) (fun hc => ?_)
              · replace h := h.1 hc
                refine x_aload_n C hl dX12_link_108 rfl ?_
                refine x_iload C hl dX12_link_109 rfl ?_
                refine y_v (x_run (As := [.int w11]) C hW hS (T_X12_load l l0 w11 s10 _ h) t1 kl_12 (CW.of yv_X12_load ml_X12_396) ⟨rfl, rfl, ⟨by decide, by decide⟩, by decide, by decide⟩ rfl hl.1 rfl (by decide) dX12_link_111) hS (fun s12 H locs h hW hS => ?_)
                refine x_aload_n C hl dX12_link_114 rfl ?_
                refine x_iload C hl dX12_link_115 rfl ?_
                refine y_i (x_run (As := [.int w11]) C hW hS (T_X12_isLive l l0 w11 s12 _ h) t1 kl_12 (CW.of yv_X12_isLive ml_X12_400) ⟨rfl, rfl, ⟨by decide, by decide⟩, by decide, by decide⟩ rfl hl.1 rfl (by decide) dX12_link_117) hS (fun w14 s13 H locs h hW hS => ?_)
                refine lv_if_eq hx hb dX12_link_120 (tgt := 145) rfl (fun hc => ?_) (fun hc => ?_)
                · replace h := h.1 hc
                  exact t_X12_link_145 C hr hS hW (hl.keep [false, false, false, false, false, false, false] rfl) h
                · replace h := h.2 hc
                  refine x_aload_n C hl dX12_link_123 rfl ?_
                  refine lv_iconst (v := (0 : Int32)) hx hb dX12_link_124 (by decide) ?_
                  refine x_aload_n C hl dX12_link_125 rfl ?_
                  refine x_get C hW (t := 12) (k := 45) t1 kl_12 (by decide) fl_X12_129 (v := rv b0 (mR s13 l0 45)) rfl dX12_link_126 ?_
                  refine x_iload C hl dX12_link_129 rfl ?_
                  have t15 := h.1
                  replace h := h.2
                  have v16 := h.1
                  replace h := h.2
                  refine x_iald C hW t15 v16 dX12_link_131 ?_
                  refine x_aload_n C hl dX12_link_132 rfl ?_
                  refine x_get C hW (t := 12) (k := 10) t1 kl_12 (by decide) fl_X12_35 (v := rv b0 (mR s13 l0 10)) rfl dX12_link_133 ?_
                  refine x_iload C hl dX12_link_136 rfl ?_
                  have t17 := h.1
                  replace h := h.2
                  have v18 := h.1
                  replace h := h.2
                  refine x_iald C hW t17 v18 dX12_link_138 ?_
                  refine y_i (x_run (As := [.int (0 : Int32), .int (mI s13 (mR s13 l0 45) w11.toNatClampNeg), .int (mI s13 (mR s13 l0 10) (((16 : Int32) * (mI s2 (mR s2 l0 45) w3.toNatClampNeg)) + l2).toNatClampNeg)]) C hW hS (T_X12_isA l l0 (0 : Int32) (mI s13 (mR s13 l0 45) w11.toNatClampNeg) (mI s13 (mR s13 l0 10) (((16 : Int32) * (mI s2 (mR s2 l0 45) w3.toNatClampNeg)) + l2).toNatClampNeg) s13 _ h) t1 kl_12 (CW.of yv_X12_isA ml_X12_315) ⟨rfl, rfl, ⟨by decide, by decide⟩, by decide, by decide⟩ rfl hl.1 rfl (by decide) dX12_link_139) hS (fun w20 s19 H locs h hW hS => ?_)
                  refine lv_if_ne hx hb dX12_link_142 (tgt := 147) rfl (fun hc => ?_) (fun hc => ?_)
                  · replace h := h.2 hc
                    refine x_aload_n C hl dX12_link_147 rfl ?_
                    refine x_get C hW (t := 12) (k := 47) t1 kl_12 (by decide) fl_X12_135 (v := rv b0 (mR s19 l0 47)) rfl dX12_link_148 ?_
                    refine lv_bipush (v := (16 : Int32)) hx hb dX12_link_151 (by decide) ?_
                    refine x_iload C hl dX12_link_153 rfl ?_
                    refine lv_imul hx hb dX12_link_155 ?_
                    refine x_iload_n C hl dX12_link_156 rfl ?_
                    refine lv_iadd hx hb dX12_link_157 ?_
                    refine x_aload_n C hl dX12_link_158 rfl ?_
                    refine x_get C hW (t := 12) (k := 44) t1 kl_12 (by decide) fl_X12_126 (v := rv b0 (mR s19 l0 44)) rfl dX12_link_159 ?_
                    refine x_iload C hl dX12_link_162 rfl ?_
                    have t21 := h.1
                    replace h := h.2
                    have v22 := h.1
                    replace h := h.2
                    refine x_iald C hW t21 v22 dX12_link_164 ?_
                    have t23 := h.1
                    replace h := h.2
                    have v24 := h.1
                    replace h := h.2
                    refine x_iast C hW hS t23 v24 dX12_link_165 (fun H locs hW hS => ?_)
                    obtain ⟨s25, e_s25⟩ : ∃ z : Mem, z = (sI s19 (mR s19 l0 47) (((16 : Int32) * w3) + l2).toNatClampNeg (mI s19 (mR s19 l0 44) w11.toNatClampNeg)) := ⟨_, rfl⟩
                    replace h := h s25 e_s25
                    replace hW : Wd G D tc b0 s25 H := by rw [e_s25]; exact hW
                    refine lv_iconst (v := (1 : Int32)) hx hb dX12_link_166 (by decide) ?_
                    exact r_z C hr hW hS h.1 h.2 dX12_link_167
                  · replace h := h.1 hc
                    exact t_X12_link_145 C hr hS hW (hl.keep [false, false, false, false, false, false, false] rfl) h
              · replace h := h.2 hc
                exact t_X12_link_106 C hr hS hW (hl.keep [false, false, false, false, false, false, false] rfl) h
          · replace h := h.1 hc
            refine x_aload_n C hl dX12_link_66 rfl ?_
            refine x_get C hW (t := 12) (k := 47) t1 kl_12 (by decide) fl_X12_135 (v := rv b0 (mR s2 l0 47)) rfl dX12_link_67 ?_
            refine lv_bipush (v := (16 : Int32)) hx hb dX12_link_70 (by decide) ?_
            refine x_iload C hl dX12_link_72 rfl ?_
            refine lv_imul hx hb dX12_link_74 ?_
            refine x_iload_n C hl dX12_link_75 rfl ?_
            refine lv_iadd hx hb dX12_link_76 ?_
            refine lv_iconst (v := (0 : Int32)) hx hb dX12_link_77 (by decide) ?_
            have t26 := h.1
            replace h := h.2
            have v27 := h.1
            replace h := h.2
            refine x_iast C hW hS t26 v27 dX12_link_78 (fun H locs hW hS => ?_)
            obtain ⟨s28, e_s28⟩ : ∃ z : Mem, z = (sI s2 (mR s2 l0 47) (((16 : Int32) * w3) + l2).toNatClampNeg (0 : Int32)) := ⟨_, rfl⟩
            replace h := h s28 e_s28
            replace hW : Wd G D tc b0 s28 H := by rw [e_s28]; exact hW
            refine lv_iconst (v := (1 : Int32)) hx hb dX12_link_79 (by decide) ?_
            exact r_z C hr hW hS h.1 h.2 dX12_link_80
        · replace h := h.2 hc
          refine lv_iconst (v := (0 : Int32)) hx hb dX12_link_59 (by decide) ?_
          exact r_z C hr hW hS h.1 h.2 dX12_link_60
      · replace h := h.2 hc
        exact t_X12_link_32 C hr hS hW (hl.keep [false, false, false, false, false, false, false] rfl) h
theorem T_X12_link (l : Launch) {G : Lay} {D : va_G} {tc : Nat → ClassId} {b0 : Nat} (l0 : Nat) (l1 : Int32) (l2 : Int32) (l3 : Int32) (σ : Mem) (Qx : Int32 → Mem → Prop) (h : X_X12_link G Qx l0 l1 l2 l3 σ) : MI l yX12_link cX12_link 7 ((some FieldType.boolean)) rm_X12_link G D tc b0 [rv b0 l0, .int l1, .int l2, .int l3] σ Qx :=
  x_entry (y := yX12_link) [.inr (.inr l0), .inl l1, .inl l2, .inl l3] 3 (by decide) (Nat.le_of_ble_eq_true rfl) (fun p e s m args below meth c ls C hr hW hl => t_X12_link_0 C hr va_S.rf hW (hl.keep [true, true, true, true, false, false, false] rfl) h)
/-! X12_addKey -/
set_option maxRecDepth 20000 in
set_option maxHeartbeats 4000000 in
theorem t_X12_addKey_41 {p : Program} {l : Launch} {e : Env} {s : State} {m : MethodId} {args : Array Value} {below : List Frame} {meth : Method} {c : Code} {H : Heap} {locs : List Loc} {D : va_G} {tc : Nat → ClassId} {b0 : Nat} {ls : Array Slot} {G : Lay} {Qx : Mem → Prop} {l0 : Nat} {l1 : Int32} {l2 : Int32}  {σ : Mem} (C : Cx p s m args meth c cX12_addKey RX12 3 D tc b0) (hr : meth.sig.returnType = (none : Option FieldType)) (hS : va_S (AA b0) s.heap H locs) (hW : Wd G D tc b0 σ H) (hl : hL b0 ls 3 [some (.inr (.inr l0)), some (.inl l1), some (.inl l2)]) (h : X_X12_addKey_41 G Qx l0 l1 l2  σ) : W p l e rm_X12_addKey s m args below meth c H locs 0 0 (MQ below (va_Qv Qx (fun u t => Pw G D tc b0 u t) (AA b0)) args s 0 0 (AA b0)) (F0 m 41 ls []) := by
  have hx := C.1
  have hb := C.2.1
  unfold X_X12_addKey_41 at h
  refine x_aload_n C hl dX12_addKey_41 rfl ?_
  have t1 := h.1
  replace h := h.2
  refine x_get C hW (t := 12) (k := 61) t1 kl_12 (by decide) fl_X12_148 (v := rv b0 (mR σ l0 61)) rfl dX12_addKey_42 ?_
  refine x_iload_n C hl dX12_addKey_45 rfl ?_
  refine x_iload_n C hl dX12_addKey_46 rfl ?_
  have t2 := h.1
  replace h := h.2
  have v3 := h.1
  replace h := h.2
  refine x_iast C hW hS t2 v3 dX12_addKey_47 (fun H locs hW hS => ?_)
  obtain ⟨s4, e_s4⟩ : ∃ z : Mem, z = (sI σ (mR σ l0 61) l2.toNatClampNeg l1) := ⟨_, rfl⟩
  replace h := h s4 e_s4
  replace hW : Wd G D tc b0 s4 H := by rw [e_s4]; exact hW
  refine x_aload_n C hl dX12_addKey_48 rfl ?_
  refine lv_dup hx hb dX12_addKey_49 (rv_cat _ _) ?_
  refine x_get C hW (t := 12) (k := 60) t1 kl_12 (by decide) fl_X12_421 (v := .int (mI s4 l0 60)) rfl dX12_addKey_50 ?_
  refine lv_iconst (v := (1 : Int32)) hx hb dX12_addKey_53 (by decide) ?_
  refine lv_iadd hx hb dX12_addKey_54 ?_
  refine x_putI C hW hS (t := 12) (k := 60) t1 kl_12 (by decide) fl_X12_421 rfl rfl rfl rfl dX12_addKey_55 (fun H locs hW hS => ?_)
  obtain ⟨s5, e_s5⟩ : ∃ z : Mem, z = (sI s4 l0 60 ((mI s4 l0 60) + (1 : Int32))) := ⟨_, rfl⟩
  replace h := h s5 e_s5
  replace hW : Wd G D tc b0 s5 H := by rw [e_s5]; exact hW
  exact r_v C hr hW hS h dX12_addKey_58
set_option maxRecDepth 20000 in
set_option maxHeartbeats 4000000 in
theorem t_X12_addKey_5_n {p : Program} {l : Launch} {e : Env} {s : State} {m : MethodId} {args : Array Value} {below : List Frame} {meth : Method} {c : Code} {D : va_G} {tc : Nat → ClassId} {b0 : Nat} {G : Lay} {Qx : Mem → Prop} {l0 : Nat} {l1 : Int32} (C : Cx p s m args meth c cX12_addKey RX12 3 D tc b0) (hr : meth.sig.returnType = (none : Option FieldType)) (n : Nat) : ∀ (l2 : Int32) (σ : Mem) (H : Heap) (locs : List Loc) (ls : Array Slot), va_S (AA b0) s.heap H locs → Wd G D tc b0 σ H → hL b0 ls 3 [some (.inr (.inr l0)), some (.inl l1), some (.inl l2)] → Lp (X_X12_addKey_5_s G Qx l0 l1) n (l2, σ) → W p l e rm_X12_addKey s m args below meth c H locs 0 0 (MQ below (va_Qv Qx (fun u t => Pw G D tc b0 u t) (AA b0)) args s 0 0 (AA b0)) (F0 m 5 ls []) := by
  have hx := C.1
  have hb := C.2.1
  induction n with
  | zero => intro l2 σ H locs ls hS hW hl h; exact False.elim h
  | succ n hK5 =>
    intro l2 σ H locs ls hS hW hl h
    replace h : X_X12_addKey_5_s G Qx l0 l1 (Lp (X_X12_addKey_5_s G Qx l0 l1) n) (l2, σ) := h
    unfold X_X12_addKey_5_s at h
    refine x_iload_n C hl dX12_addKey_5 rfl ?_
    refine lv_if_le hx hb dX12_addKey_6 (tgt := 41) rfl (fun hc => ?_) (fun hc => ?_)
    · replace h := h.1 hc
      exact t_X12_addKey_41 C hr hS hW (hl.keep [true, true, true] rfl) h
    · replace h := h.2 hc
      refine x_aload_n C hl dX12_addKey_9 rfl ?_
      have t1 := h.1
      replace h := h.2
      refine x_get C hW (t := 12) (k := 61) t1 kl_12 (by decide) fl_X12_148 (v := rv b0 (mR σ l0 61)) rfl dX12_addKey_10 ?_
      refine x_iload_n C hl dX12_addKey_13 rfl ?_
      refine lv_iconst (v := (1 : Int32)) hx hb dX12_addKey_14 (by decide) ?_
      refine lv_isub hx hb dX12_addKey_15 ?_
      have t2 := h.1
      replace h := h.2
      have v3 := h.1
      replace h := h.2
      refine x_iald C hW t2 v3 dX12_addKey_16 ?_
      refine x_iload_n C hl dX12_addKey_17 rfl ?_
      refine lv_icmp_le hx hb dX12_addKey_18 (tgt := 41) rfl (fun hc => ?_) (fun hc => ?_)
      · replace h := h.1 hc
        exact t_X12_addKey_41 C hr hS hW (hl.keep [true, true, true] rfl) h
      · replace h := h.2 hc
        refine x_aload_n C hl dX12_addKey_21 rfl ?_
        refine x_get C hW (t := 12) (k := 61) t1 kl_12 (by decide) fl_X12_148 (v := rv b0 (mR σ l0 61)) rfl dX12_addKey_22 ?_
        refine x_iload_n C hl dX12_addKey_25 rfl ?_
        refine x_aload_n C hl dX12_addKey_26 rfl ?_
        refine x_get C hW (t := 12) (k := 61) t1 kl_12 (by decide) fl_X12_148 (v := rv b0 (mR σ l0 61)) rfl dX12_addKey_27 ?_
        refine x_iload_n C hl dX12_addKey_30 rfl ?_
        refine lv_iconst (v := (1 : Int32)) hx hb dX12_addKey_31 (by decide) ?_
        refine lv_isub hx hb dX12_addKey_32 ?_
        refine x_iald C hW t2 v3 dX12_addKey_33 ?_
        have v4 := h.1
        replace h := h.2
        refine x_iast C hW hS t2 v4 dX12_addKey_34 (fun H locs hW hS => ?_)
        obtain ⟨s5, e_s5⟩ : ∃ z : Mem, z = (sI σ (mR σ l0 61) l2.toNatClampNeg (mI σ (mR σ l0 61) (l2 - (1 : Int32)).toNatClampNeg)) := ⟨_, rfl⟩
        replace h := h s5 e_s5
        replace hW : Wd G D tc b0 s5 H := by rw [e_s5]; exact hW
        refine x_iinc C hl dX12_addKey_35 rfl (v := (-1 : Int32)) (by decide) (by decide) rfl (fun ls hl => ?_)
        refine lv_goto hx hb dX12_addKey_38 (tgt := 5) rfl ?_
        exact hK5 _ _ _ _ _ hS hW (hl.keep [true, true, true] rfl) h
set_option maxRecDepth 20000 in
set_option maxHeartbeats 4000000 in
theorem t_X12_addKey_5 {p : Program} {l : Launch} {e : Env} {s : State} {m : MethodId} {args : Array Value} {below : List Frame} {meth : Method} {c : Code} {H : Heap} {locs : List Loc} {D : va_G} {tc : Nat → ClassId} {b0 : Nat} {ls : Array Slot} {G : Lay} {Qx : Mem → Prop} {l0 : Nat} {l1 : Int32} {l2 : Int32}  {σ : Mem} (C : Cx p s m args meth c cX12_addKey RX12 3 D tc b0) (hr : meth.sig.returnType = (none : Option FieldType)) (hS : va_S (AA b0) s.heap H locs) (hW : Wd G D tc b0 σ H) (hl : hL b0 ls 3 [some (.inr (.inr l0)), some (.inl l1), some (.inl l2)]) (h : X_X12_addKey_5 G Qx l0 l1 l2 σ) : W p l e rm_X12_addKey s m args below meth c H locs 0 0 (MQ below (va_Qv Qx (fun u t => Pw G D tc b0 u t) (AA b0)) args s 0 0 (AA b0)) (F0 m 5 ls []) := by
  obtain ⟨n, h⟩ := h
  exact t_X12_addKey_5_n C hr n l2 σ H locs ls hS hW hl h
set_option maxRecDepth 20000 in
set_option maxHeartbeats 4000000 in
theorem t_X12_addKey_0 {p : Program} {l : Launch} {e : Env} {s : State} {m : MethodId} {args : Array Value} {below : List Frame} {meth : Method} {c : Code} {H : Heap} {locs : List Loc} {D : va_G} {tc : Nat → ClassId} {b0 : Nat} {ls : Array Slot} {G : Lay} {Qx : Mem → Prop} {l0 : Nat} {l1 : Int32}  {σ : Mem} (C : Cx p s m args meth c cX12_addKey RX12 3 D tc b0) (hr : meth.sig.returnType = (none : Option FieldType)) (hS : va_S (AA b0) s.heap H locs) (hW : Wd G D tc b0 σ H) (hl : hL b0 ls 3 [some (.inr (.inr l0)), some (.inl l1), none]) (h : X_X12_addKey_0 G Qx l0 l1  σ) : W p l e rm_X12_addKey s m args below meth c H locs 0 0 (MQ below (va_Qv Qx (fun u t => Pw G D tc b0 u t) (AA b0)) args s 0 0 (AA b0)) (F0 m 0 ls []) := by
  have hx := C.1
  have hb := C.2.1
  unfold X_X12_addKey_0 at h
  refine x_aload_n C hl dX12_addKey_0 rfl ?_
  have t1 := h.1
  replace h := h.2
  refine x_get C hW (t := 12) (k := 60) t1 kl_12 (by decide) fl_X12_421 (v := .int (mI σ l0 60)) rfl dX12_addKey_1 ?_
  refine x_istore_n C hl dX12_addKey_4 (by decide) rfl (fun ls hl => ?_)
  exact t_X12_addKey_5 C hr hS hW (hl.keep [true, true, true] rfl) h
theorem T_X12_addKey (l : Launch) {G : Lay} {D : va_G} {tc : Nat → ClassId} {b0 : Nat} (l0 : Nat) (l1 : Int32) (σ : Mem) (Qx : Mem → Prop) (h : X_X12_addKey G Qx l0 l1 σ) : MV l yX12_addKey cX12_addKey 3 ((none : Option FieldType)) rm_X12_addKey G D tc b0 [rv b0 l0, .int l1] σ Qx :=
  x_entry (y := yX12_addKey) [.inr (.inr l0), .inl l1] 1 (by decide) (Nat.le_of_ble_eq_true rfl) (fun p e s m args below meth c ls C hr hW hl => t_X12_addKey_0 C hr va_S.rf hW (hl.keep [true, true, false] rfl) h)
/-! X12_isList -/
set_option maxRecDepth 20000 in
set_option maxHeartbeats 4000000 in
theorem t_X12_isList_19 {p : Program} {l : Launch} {e : Env} {s : State} {m : MethodId} {args : Array Value} {below : List Frame} {meth : Method} {c : Code} {H : Heap} {locs : List Loc} {D : va_G} {tc : Nat → ClassId} {b0 : Nat} {ls : Array Slot} {G : Lay} {Qx : Int32 → Mem → Prop}   {σ : Mem} (C : Cx p s m args meth c cX12_isList RX12 11 D tc b0) (hr : meth.sig.returnType = (some FieldType.boolean)) (hS : va_S (AA b0) s.heap H locs) (hW : Wd G D tc b0 σ H) (hl : hL b0 ls 11 [none, none, none, none, none, none, none, none, none, none, none]) (h : X_X12_isList_19 G Qx   σ) : W p l e rm_X12_isList s m args below meth c H locs 0 0 (MQ below (va_Qi Qx (fun u t => Pw G D tc b0 u t) (AA b0)) args s 0 0 (AA b0)) (F0 m 19 ls []) := by
  have hx := C.1
  have hb := C.2.1
  unfold X_X12_isList_19 at h
  refine lv_iconst (v := (0 : Int32)) hx hb dX12_isList_19 (by decide) ?_
  exact r_z C hr hW hS h.1 h.2 dX12_isList_20
set_option maxRecDepth 20000 in
set_option maxHeartbeats 4000000 in
theorem t_X12_isList_198 {p : Program} {l : Launch} {e : Env} {s : State} {m : MethodId} {args : Array Value} {below : List Frame} {meth : Method} {c : Code} {H : Heap} {locs : List Loc} {D : va_G} {tc : Nat → ClassId} {b0 : Nat} {ls : Array Slot} {G : Lay} {Qx : Int32 → Mem → Prop} {l0 : Nat} {l1 : Int32} {l4 : Int32} {l5 : Int32} {l6 : Int32} {l7 : Int32} {l9 : Int32}  {K92 : Int32 × Mem → Prop} {σ : Mem} (C : Cx p s m args meth c cX12_isList RX12 11 D tc b0) (hr : meth.sig.returnType = (some FieldType.boolean)) (hK92 : ∀ (x9 : Int32) (σ : Mem) (H : Heap) (locs : List Loc) (ls : Array Slot), va_S (AA b0) s.heap H locs → Wd G D tc b0 σ H → hL b0 ls 11 [some (.inr (.inr l0)), some (.inl l1), none, none, some (.inl l4), some (.inl l5), some (.inl l6), some (.inl l7), none, some (.inl x9), none] → K92 (x9, σ) → W p l e rm_X12_isList s m args below meth c H locs 0 0 (MQ below (va_Qi Qx (fun u t => Pw G D tc b0 u t) (AA b0)) args s 0 0 (AA b0)) (F0 m 92 ls [])) (hS : va_S (AA b0) s.heap H locs) (hW : Wd G D tc b0 σ H) (hl : hL b0 ls 11 [some (.inr (.inr l0)), some (.inl l1), none, none, some (.inl l4), some (.inl l5), some (.inl l6), some (.inl l7), none, some (.inl l9), none]) (h : X_X12_isList_198 G Qx K92 l0 l1 l4 l5 l6 l7 l9  σ) : W p l e rm_X12_isList s m args below meth c H locs 0 0 (MQ below (va_Qi Qx (fun u t => Pw G D tc b0 u t) (AA b0)) args s 0 0 (AA b0)) (F0 m 198 ls []) := by
  have hx := C.1
  have hb := C.2.1
  unfold X_X12_isList_198 at h
  refine x_iinc C hl dX12_isList_198 rfl (v := (1 : Int32)) (by decide) (by decide) rfl (fun ls hl => ?_)
  refine lv_goto hx hb dX12_isList_201 (tgt := 92) rfl ?_
  exact hK92 _ _ _ _ _ hS hW (hl.keep [true, true, false, false, true, true, true, true, false, true, false] rfl) h
set_option maxRecDepth 20000 in
set_option maxHeartbeats 4000000 in
theorem t_X12_isList_187 {p : Program} {l : Launch} {e : Env} {s : State} {m : MethodId} {args : Array Value} {below : List Frame} {meth : Method} {c : Code} {H : Heap} {locs : List Loc} {D : va_G} {tc : Nat → ClassId} {b0 : Nat} {ls : Array Slot} {G : Lay} {Qx : Int32 → Mem → Prop} {l0 : Nat} {l1 : Int32} {l4 : Int32} {l5 : Int32} {l6 : Int32} {l7 : Int32} {l9 : Int32}  {K92 : Int32 × Mem → Prop} {σ : Mem} (C : Cx p s m args meth c cX12_isList RX12 11 D tc b0) (hr : meth.sig.returnType = (some FieldType.boolean)) (hK92 : ∀ (x9 : Int32) (σ : Mem) (H : Heap) (locs : List Loc) (ls : Array Slot), va_S (AA b0) s.heap H locs → Wd G D tc b0 σ H → hL b0 ls 11 [some (.inr (.inr l0)), some (.inl l1), none, none, some (.inl l4), some (.inl l5), some (.inl l6), some (.inl l7), none, some (.inl x9), none] → K92 (x9, σ) → W p l e rm_X12_isList s m args below meth c H locs 0 0 (MQ below (va_Qi Qx (fun u t => Pw G D tc b0 u t) (AA b0)) args s 0 0 (AA b0)) (F0 m 92 ls [])) (hS : va_S (AA b0) s.heap H locs) (hW : Wd G D tc b0 σ H) (hl : hL b0 ls 11 [some (.inr (.inr l0)), some (.inl l1), none, none, some (.inl l4), some (.inl l5), some (.inl l6), some (.inl l7), none, some (.inl l9), none]) (h : X_X12_isList_187 G Qx K92 l0 l1 l4 l5 l6 l7 l9  σ) : W p l e rm_X12_isList s m args below meth c H locs 0 0 (MQ below (va_Qi Qx (fun u t => Pw G D tc b0 u t) (AA b0)) args s 0 0 (AA b0)) (F0 m 187 ls []) := by
  have hx := C.1
  have hb := C.2.1
  unfold X_X12_isList_187 at h
  refine x_aload_n C hl dX12_isList_187 rfl ?_
  refine x_aload_n C hl dX12_isList_188 rfl ?_
  have t1 := h.1
  replace h := h.2
  refine x_get C hW (t := 12) (k := 28) t1 kl_12 (by decide) fl_X12_80 (v := rv b0 (mR σ l0 28)) rfl dX12_isList_189 ?_
  refine x_iload C hl dX12_isList_192 rfl ?_
  have t2 := h.1
  replace h := h.2
  have v3 := h.1
  replace h := h.2
  refine x_iald C hW t2 v3 dX12_isList_194 ?_
  refine y_v (x_run (As := [.int (mI σ (mR σ l0 28) l9.toNatClampNeg)]) C hW hS (T_X12_addKey l l0 (mI σ (mR σ l0 28) l9.toNatClampNeg) σ _ h) t1 kl_12 (CW.of yv_X12_addKey ml_X12_424) ⟨rfl, rfl, ⟨by decide, by decide⟩, by decide, by decide⟩ rfl hl.1 rfl (by decide) dX12_isList_195) hS (fun s4 H locs h hW hS => ?_)
  exact t_X12_isList_198 C hr hK92 hS hW (hl.keep [true, true, false, false, true, true, true, true, false, true, false] rfl) h
set_option maxRecDepth 20000 in
set_option maxHeartbeats 4000000 in
theorem t_X12_isList_300 {p : Program} {l : Launch} {e : Env} {s : State} {m : MethodId} {args : Array Value} {below : List Frame} {meth : Method} {c : Code} {H : Heap} {locs : List Loc} {D : va_G} {tc : Nat → ClassId} {b0 : Nat} {ls : Array Slot} {G : Lay} {Qx : Int32 → Mem → Prop} {l0 : Nat} {l1 : Int32} {l4 : Int32} {l5 : Int32} {l6 : Int32} {l7 : Int32} {l9 : Int32}  {K207 : Int32 × Mem → Prop} {σ : Mem} (C : Cx p s m args meth c cX12_isList RX12 11 D tc b0) (hr : meth.sig.returnType = (some FieldType.boolean)) (hK207 : ∀ (x9 : Int32) (σ : Mem) (H : Heap) (locs : List Loc) (ls : Array Slot), va_S (AA b0) s.heap H locs → Wd G D tc b0 σ H → hL b0 ls 11 [some (.inr (.inr l0)), some (.inl l1), none, none, some (.inl l4), some (.inl l5), some (.inl l6), some (.inl l7), none, some (.inl x9), none] → K207 (x9, σ) → W p l e rm_X12_isList s m args below meth c H locs 0 0 (MQ below (va_Qi Qx (fun u t => Pw G D tc b0 u t) (AA b0)) args s 0 0 (AA b0)) (F0 m 207 ls [])) (hS : va_S (AA b0) s.heap H locs) (hW : Wd G D tc b0 σ H) (hl : hL b0 ls 11 [some (.inr (.inr l0)), some (.inl l1), none, none, some (.inl l4), some (.inl l5), some (.inl l6), some (.inl l7), none, some (.inl l9), none]) (h : X_X12_isList_300 G Qx K207 l0 l1 l4 l5 l6 l7 l9  σ) : W p l e rm_X12_isList s m args below meth c H locs 0 0 (MQ below (va_Qi Qx (fun u t => Pw G D tc b0 u t) (AA b0)) args s 0 0 (AA b0)) (F0 m 300 ls []) := by
  have hx := C.1
  have hb := C.2.1
  unfold X_X12_isList_300 at h
  refine x_iinc C hl dX12_isList_300 rfl (v := (1 : Int32)) (by decide) (by decide) rfl (fun ls hl => ?_)
  refine lv_goto hx hb dX12_isList_303 (tgt := 207) rfl ?_
  exact hK207 _ _ _ _ _ hS hW (hl.keep [true, true, false, false, true, true, true, true, false, true, false] rfl) h
set_option maxRecDepth 20000 in
set_option maxHeartbeats 4000000 in
theorem t_X12_isList_207_n {p : Program} {l : Launch} {e : Env} {s : State} {m : MethodId} {args : Array Value} {below : List Frame} {meth : Method} {c : Code} {D : va_G} {tc : Nat → ClassId} {b0 : Nat} {G : Lay} {Qx : Int32 → Mem → Prop} {l0 : Nat} {l1 : Int32} {l4 : Int32} {l5 : Int32} {l6 : Int32} {l7 : Int32} (C : Cx p s m args meth c cX12_isList RX12 11 D tc b0) (hr : meth.sig.returnType = (some FieldType.boolean)) (n : Nat) : ∀ (l9 : Int32) (σ : Mem) (H : Heap) (locs : List Loc) (ls : Array Slot), va_S (AA b0) s.heap H locs → Wd G D tc b0 σ H → hL b0 ls 11 [some (.inr (.inr l0)), some (.inl l1), none, none, some (.inl l4), some (.inl l5), some (.inl l6), some (.inl l7), none, some (.inl l9), none] → Lp (X_X12_isList_207_s G Qx l0 l1 l4 l5 l6 l7) n (l9, σ) → W p l e rm_X12_isList s m args below meth c H locs 0 0 (MQ below (va_Qi Qx (fun u t => Pw G D tc b0 u t) (AA b0)) args s 0 0 (AA b0)) (F0 m 207 ls []) := by
  have hx := C.1
  have hb := C.2.1
  induction n with
  | zero => intro l9 σ H locs ls hS hW hl h; exact False.elim h
  | succ n hK207 =>
    intro l9 σ H locs ls hS hW hl h
    replace h : X_X12_isList_207_s G Qx l0 l1 l4 l5 l6 l7 (Lp (X_X12_isList_207_s G Qx l0 l1 l4 l5 l6 l7) n) (l9, σ) := h
    unfold X_X12_isList_207_s at h
    refine x_iload C hl dX12_isList_207 rfl ?_
    refine x_aload_n C hl dX12_isList_209 rfl ?_
    have t1 := h.1
    replace h := h.2
    refine x_get C hW (t := 12) (k := 40) t1 kl_12 (by decide) fl_X12_114 (v := rv b0 (mR σ l0 40)) rfl dX12_isList_210 ?_
    refine x_iload C hl dX12_isList_213 rfl ?_
    have t2 := h.1
    replace h := h.2
    have v3 := h.1
    replace h := h.2
    refine x_iald C hW t2 v3 dX12_isList_215 ?_
    refine lv_icmp_ge hx hb dX12_isList_216 (tgt := 306) rfl (fun hc => ?_) (fun hc => ?_)
    · replace h := h.1 hc
      refine lv_iconst (v := (1 : Int32)) hx hb dX12_isList_306 (by decide) ?_
      exact r_z C hr hW hS h.1 h.2 dX12_isList_307
    · replace h := h.2 hc
      refine lv_bipush (v := (60 : Int32)) hx hb dX12_isList_219 (by decide) ?_
      refine x_iload C hl dX12_isList_221 rfl ?_
      refine lv_imul hx hb dX12_isList_223 ?_
      refine x_iload C hl dX12_isList_224 rfl ?_
      refine lv_iadd hx hb dX12_isList_226 ?_
      refine x_istore C hl dX12_isList_227 (by decide) rfl (fun ls hl => ?_)
      refine x_aload_n C hl dX12_isList_229 rfl ?_
      refine x_get C hW (t := 12) (k := 43) t1 kl_12 (by decide) fl_X12_123 (v := rv b0 (mR σ l0 43)) rfl dX12_isList_230 ?_
      refine x_iload C hl dX12_isList_233 rfl ?_
      have t4 := h.1
      replace h := h.2
      have v5 := h.1
      replace h := h.2
      refine x_iald C hW t4 v5 dX12_isList_235 ?_
      refine x_iload C hl dX12_isList_236 rfl ?_
      refine lv_icmp_ne hx hb dX12_isList_238 (tgt := 300) rfl (fun hc => ?_) (fun hc => ?_)
      · replace h := h.2 hc
        exact t_X12_isList_300 C hr hK207 hS hW (hl.keep [true, true, false, false, true, true, true, true, false, true, false] rfl) h
      · replace h := h.1 hc
        refine x_aload_n C hl dX12_isList_241 rfl ?_
        refine x_iload C hl dX12_isList_242 rfl ?_
        refine y_i (x_run (As := [.int (((60 : Int32) * l4) + l9)]) C hW hS (T_X12_isLive l l0 (((60 : Int32) * l4) + l9) σ _ h) t1 kl_12 (CW.of yv_X12_isLive ml_X12_400) ⟨rfl, rfl, ⟨by decide, by decide⟩, by decide, by decide⟩ rfl hl.1 rfl (by decide) dX12_isList_244) hS (fun w7 s6 H locs h hW hS => ?_)
        refine lv_if_eq hx hb dX12_isList_247 (tgt := 300) rfl (fun hc => ?_) (fun hc => ?_)
        · replace h := h.1 hc
          exact t_X12_isList_300 C hr hK207 hS hW (hl.keep [true, true, false, false, true, true, true, true, false, true, false] rfl) h
        · replace h := h.2 hc
          refine x_aload_n C hl dX12_isList_250 rfl ?_
          refine lv_iconst (v := (0 : Int32)) hx hb dX12_isList_251 (by decide) ?_
          refine x_aload_n C hl dX12_isList_252 rfl ?_
          refine x_get C hW (t := 12) (k := 45) t1 kl_12 (by decide) fl_X12_129 (v := rv b0 (mR s6 l0 45)) rfl dX12_isList_253 ?_
          refine x_iload C hl dX12_isList_256 rfl ?_
          have t8 := h.1
          replace h := h.2
          have v9 := h.1
          replace h := h.2
          refine x_iald C hW t8 v9 dX12_isList_258 ?_
          refine x_iload C hl dX12_isList_259 rfl ?_
          refine y_i (x_run (As := [.int (0 : Int32), .int (mI s6 (mR s6 l0 45) (((60 : Int32) * l4) + l9).toNatClampNeg), .int l5]) C hW hS (T_X12_isA l l0 (0 : Int32) (mI s6 (mR s6 l0 45) (((60 : Int32) * l4) + l9).toNatClampNeg) l5 s6 _ h) t1 kl_12 (CW.of yv_X12_isA ml_X12_315) ⟨rfl, rfl, ⟨by decide, by decide⟩, by decide, by decide⟩ rfl hl.1 rfl (by decide) dX12_isList_261) hS (fun w11 s10 H locs h hW hS => ?_)
          refine lv_if_eq hx hb dX12_isList_264 (tgt := 300) rfl (fun hc => ?_) (fun hc => ?_)
          · replace h := h.1 hc
            exact t_X12_isList_300 C hr hK207 hS hW (hl.keep [true, true, false, false, true, true, true, true, false, true, false] rfl) h
          · replace h := h.2 hc
            refine x_aload_n C hl dX12_isList_267 rfl ?_
            refine x_get C hW (t := 12) (k := 47) t1 kl_12 (by decide) fl_X12_135 (v := rv b0 (mR s10 l0 47)) rfl dX12_isList_268 ?_
            refine lv_bipush (v := (16 : Int32)) hx hb dX12_isList_271 (by decide) ?_
            refine x_iload C hl dX12_isList_273 rfl ?_
            refine lv_imul hx hb dX12_isList_275 ?_
            refine x_iload C hl dX12_isList_276 rfl ?_
            refine lv_iadd hx hb dX12_isList_278 ?_
            have t12 := h.1
            replace h := h.2
            have v13 := h.1
            replace h := h.2
            refine x_iald C hW t12 v13 dX12_isList_279 ?_
            refine x_aload_n C hl dX12_isList_280 rfl ?_
            refine x_get C hW (t := 12) (k := 44) t1 kl_12 (by decide) fl_X12_126 (v := rv b0 (mR s10 l0 44)) rfl dX12_isList_281 ?_
            refine x_iload_n C hl dX12_isList_284 rfl ?_
            have t14 := h.1
            replace h := h.2
            have v15 := h.1
            replace h := h.2
            refine x_iald C hW t14 v15 dX12_isList_285 ?_
            refine lv_icmp_ne hx hb dX12_isList_286 (tgt := 300) rfl (fun hc => ?_) (fun hc => ?_)
            · replace h := h.2 hc
              exact t_X12_isList_300 C hr hK207 hS hW (hl.keep [true, true, false, false, true, true, true, true, false, true, false] rfl) h
            · replace h := h.1 hc
              refine x_aload_n C hl dX12_isList_289 rfl ?_
              refine x_aload_n C hl dX12_isList_290 rfl ?_
              refine x_get C hW (t := 12) (k := 44) t1 kl_12 (by decide) fl_X12_126 (v := rv b0 (mR s10 l0 44)) rfl dX12_isList_291 ?_
              refine x_iload C hl dX12_isList_294 rfl ?_
              have v16 := h.1
              replace h := h.2
              refine x_iald C hW t14 v16 dX12_isList_296 ?_
              refine y_v (x_run (As := [.int (mI s10 (mR s10 l0 44) (((60 : Int32) * l4) + l9).toNatClampNeg)]) C hW hS (T_X12_addKey l l0 (mI s10 (mR s10 l0 44) (((60 : Int32) * l4) + l9).toNatClampNeg) s10 _ h) t1 kl_12 (CW.of yv_X12_addKey ml_X12_424) ⟨rfl, rfl, ⟨by decide, by decide⟩, by decide, by decide⟩ rfl hl.1 rfl (by decide) dX12_isList_297) hS (fun s17 H locs h hW hS => ?_)
              exact t_X12_isList_300 C hr hK207 hS hW (hl.keep [true, true, false, false, true, true, true, true, false, true, false] rfl) h
set_option maxRecDepth 20000 in
set_option maxHeartbeats 4000000 in
theorem t_X12_isList_207 {p : Program} {l : Launch} {e : Env} {s : State} {m : MethodId} {args : Array Value} {below : List Frame} {meth : Method} {c : Code} {H : Heap} {locs : List Loc} {D : va_G} {tc : Nat → ClassId} {b0 : Nat} {ls : Array Slot} {G : Lay} {Qx : Int32 → Mem → Prop} {l0 : Nat} {l1 : Int32} {l4 : Int32} {l5 : Int32} {l6 : Int32} {l7 : Int32} {l9 : Int32}  {σ : Mem} (C : Cx p s m args meth c cX12_isList RX12 11 D tc b0) (hr : meth.sig.returnType = (some FieldType.boolean)) (hS : va_S (AA b0) s.heap H locs) (hW : Wd G D tc b0 σ H) (hl : hL b0 ls 11 [some (.inr (.inr l0)), some (.inl l1), none, none, some (.inl l4), some (.inl l5), some (.inl l6), some (.inl l7), none, some (.inl l9), none]) (h : X_X12_isList_207 G Qx l0 l1 l4 l5 l6 l7 l9 σ) : W p l e rm_X12_isList s m args below meth c H locs 0 0 (MQ below (va_Qi Qx (fun u t => Pw G D tc b0 u t) (AA b0)) args s 0 0 (AA b0)) (F0 m 207 ls []) := by
  obtain ⟨n, h⟩ := h
  exact t_X12_isList_207_n C hr n l9 σ H locs ls hS hW hl h
set_option maxRecDepth 20000 in
set_option maxHeartbeats 4000000 in
theorem t_X12_isList_92_n {p : Program} {l : Launch} {e : Env} {s : State} {m : MethodId} {args : Array Value} {below : List Frame} {meth : Method} {c : Code} {D : va_G} {tc : Nat → ClassId} {b0 : Nat} {G : Lay} {Qx : Int32 → Mem → Prop} {l0 : Nat} {l1 : Int32} {l4 : Int32} {l5 : Int32} {l6 : Int32} {l7 : Int32} (C : Cx p s m args meth c cX12_isList RX12 11 D tc b0) (hr : meth.sig.returnType = (some FieldType.boolean)) (n : Nat) : ∀ (l9 : Int32) (σ : Mem) (H : Heap) (locs : List Loc) (ls : Array Slot), va_S (AA b0) s.heap H locs → Wd G D tc b0 σ H → hL b0 ls 11 [some (.inr (.inr l0)), some (.inl l1), none, none, some (.inl l4), some (.inl l5), some (.inl l6), some (.inl l7), none, some (.inl l9), none] → Lp (X_X12_isList_92_s G Qx l0 l1 l4 l5 l6 l7) n (l9, σ) → W p l e rm_X12_isList s m args below meth c H locs 0 0 (MQ below (va_Qi Qx (fun u t => Pw G D tc b0 u t) (AA b0)) args s 0 0 (AA b0)) (F0 m 92 ls []) := by
  have hx := C.1
  have hb := C.2.1
  induction n with
  | zero => intro l9 σ H locs ls hS hW hl h; exact False.elim h
  | succ n hK92 =>
    intro l9 σ H locs ls hS hW hl h
    replace h : X_X12_isList_92_s G Qx l0 l1 l4 l5 l6 l7 (Lp (X_X12_isList_92_s G Qx l0 l1 l4 l5 l6 l7) n) (l9, σ) := h
    unfold X_X12_isList_92_s at h
    refine x_iload C hl dX12_isList_92 rfl ?_
    refine x_aload_n C hl dX12_isList_94 rfl ?_
    have t1 := h.1
    replace h := h.2
    refine x_get C hW (t := 12) (k := 26) t1 kl_12 (by decide) fl_X12_344 (v := .int (mI σ l0 26)) rfl dX12_isList_95 ?_
    refine lv_icmp_ge hx hb dX12_isList_98 (tgt := 204) rfl (fun hc => ?_) (fun hc => ?_)
    · replace h := h.1 hc
      refine lv_iconst (v := (0 : Int32)) hx hb dX12_isList_204 (by decide) ?_
      refine x_istore C hl dX12_isList_205 (by decide) rfl (fun ls hl => ?_)
      exact t_X12_isList_207 C hr hS hW (hl.keep [true, true, false, false, true, true, true, true, false, true, false] rfl) h
    · replace h := h.2 hc
      refine x_aload_n C hl dX12_isList_101 rfl ?_
      refine x_get C hW (t := 12) (k := 27) t1 kl_12 (by decide) fl_X12_77 (v := rv b0 (mR σ l0 27)) rfl dX12_isList_102 ?_
      refine x_iload C hl dX12_isList_105 rfl ?_
      have t2 := h.1
      replace h := h.2
      have v3 := h.1
      replace h := h.2
      refine x_iald C hW t2 v3 dX12_isList_107 ?_
      refine x_iload C hl dX12_isList_108 rfl ?_
      refine lv_icmp_ne hx hb dX12_isList_110 (tgt := 198) rfl (fun hc => ?_) (fun hc => ?_)
      · replace h := h.2 hc
        exact t_X12_isList_198 C hr hK92 hS hW (hl.keep [true, true, false, false, true, true, true, true, false, true, false] rfl) h
      · replace h := h.1 hc
        refine x_aload_n C hl dX12_isList_113 rfl ?_
        refine lv_iconst (v := (0 : Int32)) hx hb dX12_isList_114 (by decide) ?_
        refine x_aload_n C hl dX12_isList_115 rfl ?_
        refine x_get C hW (t := 12) (k := 29) t1 kl_12 (by decide) fl_X12_83 (v := rv b0 (mR σ l0 29)) rfl dX12_isList_116 ?_
        refine x_iload C hl dX12_isList_119 rfl ?_
        have t4 := h.1
        replace h := h.2
        have v5 := h.1
        replace h := h.2
        refine x_iald C hW t4 v5 dX12_isList_121 ?_
        refine x_iload C hl dX12_isList_122 rfl ?_
        refine y_i (x_run (As := [.int (0 : Int32), .int (mI σ (mR σ l0 29) l9.toNatClampNeg), .int l5]) C hW hS (T_X12_isA l l0 (0 : Int32) (mI σ (mR σ l0 29) l9.toNatClampNeg) l5 σ _ h) t1 kl_12 (CW.of yv_X12_isA ml_X12_315) ⟨rfl, rfl, ⟨by decide, by decide⟩, by decide, by decide⟩ rfl hl.1 rfl (by decide) dX12_isList_124) hS (fun w7 s6 H locs h hW hS => ?_)
        refine lv_if_eq hx hb dX12_isList_127 (tgt := 198) rfl (fun hc => ?_) (fun hc => ?_)
        · replace h := h.1 hc
          exact t_X12_isList_198 C hr hK92 hS hW (hl.keep [true, true, false, false, true, true, true, true, false, true, false] rfl) h
        · replace h := h.2 hc
          refine x_aload_n C hl dX12_isList_130 rfl ?_
          refine x_get C hW (t := 12) (k := 31) t1 kl_12 (by decide) fl_X12_89 (v := rv b0 (mR s6 l0 31)) rfl dX12_isList_131 ?_
          refine lv_bipush (v := (16 : Int32)) hx hb dX12_isList_134 (by decide) ?_
          refine x_iload C hl dX12_isList_136 rfl ?_
          refine lv_imul hx hb dX12_isList_138 ?_
          refine x_iload C hl dX12_isList_139 rfl ?_
          refine lv_iadd hx hb dX12_isList_141 ?_
          have t8 := h.1
          replace h := h.2
          have v9 := h.1
          replace h := h.2
          refine x_iald C hW t8 v9 dX12_isList_142 ?_
          refine x_aload_n C hl dX12_isList_143 rfl ?_
          refine x_get C hW (t := 12) (k := 44) t1 kl_12 (by decide) fl_X12_126 (v := rv b0 (mR s6 l0 44)) rfl dX12_isList_144 ?_
          refine x_iload_n C hl dX12_isList_147 rfl ?_
          have t10 := h.1
          replace h := h.2
          have v11 := h.1
          replace h := h.2
          refine x_iald C hW t10 v11 dX12_isList_148 ?_
          refine lv_icmp_eq hx hb dX12_isList_149 (tgt := 155) rfl (fun hc => ?_) (fun hc => ?_)
          · replace h := h.1 hc
            refine x_aload_n C hl dX12_isList_155 rfl ?_
            refine x_iload C hl dX12_isList_156 rfl ?_
            refine x_iload C hl dX12_isList_158 rfl ?_
            refine x_aload_n C hl dX12_isList_160 rfl ?_
            refine x_get C hW (t := 12) (k := 28) t1 kl_12 (by decide) fl_X12_80 (v := rv b0 (mR s6 l0 28)) rfl dX12_isList_161 ?_
            refine x_iload C hl dX12_isList_164 rfl ?_
            have t12 := h.1
            replace h := h.2
            have v13 := h.1
            replace h := h.2
            refine x_iald C hW t12 v13 dX12_isList_166 ?_
            refine y_i (x_run (As := [.int l4, .int l7, .int (mI s6 (mR s6 l0 28) l9.toNatClampNeg)]) C hW hS (T_X12_objectOf l l0 l4 l7 (mI s6 (mR s6 l0 28) l9.toNatClampNeg) s6 _ h) t1 kl_12 (CW.of yv_X12_objectOf ml_X12_383) ⟨rfl, rfl, ⟨by decide, by decide⟩, by decide, by decide⟩ rfl hl.1 rfl (by decide) dX12_isList_167) hS (fun w15 s14 H locs h hW hS => ?_)
            refine x_istore C hl dX12_isList_170 (by decide) rfl (fun ls hl => ?_)
            refine x_iload C hl dX12_isList_172 rfl ?_
            refine lv_if_lt hx hb dX12_isList_174 (tgt := 187) rfl (fun hc => ?_) (fun hc => ?_)
            · replace h := h.1 hc
              exact t_X12_isList_187 C hr hK92 hS hW (hl.keep [true, true, false, false, true, true, true, true, false, true, false] rfl) h
            · replace h := h.2 hc
              refine x_aload_n C hl dX12_isList_177 rfl ?_
              refine x_get C hW (t := 12) (k := 42) t1 kl_12 (by decide) fl_X12_120 (v := rv b0 (mR s14 l0 42)) rfl dX12_isList_178 ?_
              refine x_iload C hl dX12_isList_181 rfl ?_
              have t16 := h.1
              replace h := h.2
              have v17 := h.1
              replace h := h.2
              refine x_iald C hW t16 v17 dX12_isList_183 ?_
              refine lv_if_ne hx hb dX12_isList_184 (tgt := 198) rfl (fun hc => ?_) (fun hc => ?_)
              · replace h := h.2 hc
                exact t_X12_isList_198 C hr hK92 hS hW (hl.keep [true, true, false, false, true, true, true, true, false, true, false] rfl) h
              · replace h := h.1 hc
                exact t_X12_isList_187 C hr hK92 hS hW (hl.keep [true, true, false, false, true, true, true, true, false, true, false] rfl) h
          · replace h := h.2 hc
            refine lv_goto hx hb dX12_isList_152 (tgt := 198) rfl ?_
            exact t_X12_isList_198 C hr hK92 hS hW (hl.keep [true, true, false, false, true, true, true, true, false, true, false] rfl) h
set_option maxRecDepth 20000 in
set_option maxHeartbeats 4000000 in
theorem t_X12_isList_92 {p : Program} {l : Launch} {e : Env} {s : State} {m : MethodId} {args : Array Value} {below : List Frame} {meth : Method} {c : Code} {H : Heap} {locs : List Loc} {D : va_G} {tc : Nat → ClassId} {b0 : Nat} {ls : Array Slot} {G : Lay} {Qx : Int32 → Mem → Prop} {l0 : Nat} {l1 : Int32} {l4 : Int32} {l5 : Int32} {l6 : Int32} {l7 : Int32} {l9 : Int32}  {σ : Mem} (C : Cx p s m args meth c cX12_isList RX12 11 D tc b0) (hr : meth.sig.returnType = (some FieldType.boolean)) (hS : va_S (AA b0) s.heap H locs) (hW : Wd G D tc b0 σ H) (hl : hL b0 ls 11 [some (.inr (.inr l0)), some (.inl l1), none, none, some (.inl l4), some (.inl l5), some (.inl l6), some (.inl l7), none, some (.inl l9), none]) (h : X_X12_isList_92 G Qx l0 l1 l4 l5 l6 l7 l9 σ) : W p l e rm_X12_isList s m args below meth c H locs 0 0 (MQ below (va_Qi Qx (fun u t => Pw G D tc b0 u t) (AA b0)) args s 0 0 (AA b0)) (F0 m 92 ls []) := by
  obtain ⟨n, h⟩ := h
  exact t_X12_isList_92_n C hr n l9 σ H locs ls hS hW hl h
set_option maxRecDepth 20000 in
set_option maxHeartbeats 4000000 in
theorem t_X12_isList_0 {p : Program} {l : Launch} {e : Env} {s : State} {m : MethodId} {args : Array Value} {below : List Frame} {meth : Method} {c : Code} {H : Heap} {locs : List Loc} {D : va_G} {tc : Nat → ClassId} {b0 : Nat} {ls : Array Slot} {G : Lay} {Qx : Int32 → Mem → Prop} {l0 : Nat} {l1 : Int32} {l2 : Int32}  {σ : Mem} (C : Cx p s m args meth c cX12_isList RX12 11 D tc b0) (hr : meth.sig.returnType = (some FieldType.boolean)) (hS : va_S (AA b0) s.heap H locs) (hW : Wd G D tc b0 σ H) (hl : hL b0 ls 11 [some (.inr (.inr l0)), some (.inl l1), some (.inl l2), none, none, none, none, none, none, none, none]) (h : X_X12_isList_0 G Qx l0 l1 l2  σ) : W p l e rm_X12_isList s m args below meth c H locs 0 0 (MQ below (va_Qi Qx (fun u t => Pw G D tc b0 u t) (AA b0)) args s 0 0 (AA b0)) (F0 m 0 ls []) := by
  have hx := C.1
  have hb := C.2.1
  unfold X_X12_isList_0 at h
  refine x_iload_n C hl dX12_isList_0 rfl ?_
  refine lv_if_lt hx hb dX12_isList_1 (tgt := 19) rfl (fun hc => ?_) (fun hc => ?_)
  · replace h := h.1 hc
    exact t_X12_isList_19 C hr hS hW (hl.keep [false, false, false, false, false, false, false, false, false, false, false] rfl) h
  · replace h := h.2 hc
    refine x_iload_n C hl dX12_isList_4 rfl ?_
    refine x_aload_n C hl dX12_isList_5 rfl ?_
    have t1 := h.1
    replace h := h.2
    refine x_get C hW (t := 12) (k := 6) t1 kl_12 (by decide) fl_X12_23 (v := rv b0 (mR σ l0 6)) rfl dX12_isList_6 ?_
    refine x_aload_n C hl dX12_isList_9 rfl ?_
    refine x_get C hW (t := 12) (k := 45) t1 kl_12 (by decide) fl_X12_129 (v := rv b0 (mR σ l0 45)) rfl dX12_isList_10 ?_
    refine x_iload_n C hl dX12_isList_13 rfl ?_
    have t2 := h.1
    replace h := h.2
    have v3 := h.1
    replace h := h.2
    refine x_iald C hW t2 v3 dX12_isList_14 ?_
    have t4 := h.1
    replace h := h.2
    have v5 := h.1
    replace h := h.2
    refine x_iald C hW t4 v5 dX12_isList_15 ?_
    refine lv_icmp_lt hx hb dX12_isList_16 (tgt := 21) rfl (fun hc => ?_) (fun hc => ?_)
    · replace h := h.1 hc
      refine lv_bipush (v := (16 : Int32)) hx hb dX12_isList_21 (by decide) ?_
      refine x_aload_n C hl dX12_isList_23 rfl ?_
      refine x_get C hW (t := 12) (k := 45) t1 kl_12 (by decide) fl_X12_129 (v := rv b0 (mR σ l0 45)) rfl dX12_isList_24 ?_
      refine x_iload_n C hl dX12_isList_27 rfl ?_
      refine x_iald C hW t2 v3 dX12_isList_28 ?_
      refine lv_imul hx hb dX12_isList_29 ?_
      refine x_iload_n C hl dX12_isList_30 rfl ?_
      refine lv_iadd hx hb dX12_isList_31 ?_
      refine x_istore_n C hl dX12_isList_32 (by decide) rfl (fun ls hl => ?_)
      refine x_aload_n C hl dX12_isList_33 rfl ?_
      refine x_get C hW (t := 12) (k := 9) t1 kl_12 (by decide) fl_X12_32 (v := rv b0 (mR σ l0 9)) rfl dX12_isList_34 ?_
      refine x_iload_n C hl dX12_isList_37 rfl ?_
      have t6 := h.1
      replace h := h.2
      have v7 := h.1
      replace h := h.2
      refine x_iald C hW t6 v7 dX12_isList_38 ?_
      refine lv_iconst (v := (5 : Int32)) hx hb dX12_isList_39 (by decide) ?_
      refine lv_icmp_eq hx hb dX12_isList_40 (tgt := 45) rfl (fun hc => ?_) (fun hc => ?_)
      · replace h := h.1 hc
        refine x_iload_n C hl dX12_isList_45 rfl ?_
        refine lv_bipush (v := (60 : Int32)) hx hb dX12_isList_46 (by decide) ?_
        refine lv_idiv hx hb dX12_isList_48 (by decide) ?_
        refine x_istore C hl dX12_isList_49 (by decide) rfl (fun ls hl => ?_)
        refine x_aload_n C hl dX12_isList_51 rfl ?_
        refine x_get C hW (t := 12) (k := 10) t1 kl_12 (by decide) fl_X12_35 (v := rv b0 (mR σ l0 10)) rfl dX12_isList_52 ?_
        refine x_iload_n C hl dX12_isList_55 rfl ?_
        have t8 := h.1
        replace h := h.2
        have v9 := h.1
        replace h := h.2
        refine x_iald C hW t8 v9 dX12_isList_56 ?_
        refine x_istore C hl dX12_isList_57 (by decide) rfl (fun ls hl => ?_)
        refine x_aload_n C hl dX12_isList_59 rfl ?_
        refine x_get C hW (t := 12) (k := 14) t1 kl_12 (by decide) fl_X12_47 (v := rv b0 (mR σ l0 14)) rfl dX12_isList_60 ?_
        refine x_iload_n C hl dX12_isList_63 rfl ?_
        have t10 := h.1
        replace h := h.2
        have v11 := h.1
        replace h := h.2
        refine x_iald C hW t10 v11 dX12_isList_64 ?_
        refine x_istore C hl dX12_isList_65 (by decide) rfl (fun ls hl => ?_)
        refine x_aload_n C hl dX12_isList_67 rfl ?_
        refine x_iload C hl dX12_isList_68 rfl ?_
        refine y_i (x_run (As := [.int (mI σ (mR σ l0 10) (((16 : Int32) * (mI σ (mR σ l0 45) l1.toNatClampNeg)) + l2).toNatClampNeg)]) C hW hS (T_X12_rootOf l l0 (mI σ (mR σ l0 10) (((16 : Int32) * (mI σ (mR σ l0 45) l1.toNatClampNeg)) + l2).toNatClampNeg) σ _ h) t1 kl_12 (CW.of yv_X12_rootOf ml_X12_353) ⟨rfl, rfl, ⟨by decide, by decide⟩, by decide, by decide⟩ rfl hl.1 rfl (by decide) dX12_isList_70) hS (fun w13 s12 H locs h hW hS => ?_)
        refine x_istore C hl dX12_isList_73 (by decide) rfl (fun ls hl => ?_)
        refine x_aload_n C hl dX12_isList_75 rfl ?_
        refine lv_iconst (v := (0 : Int32)) hx hb dX12_isList_76 (by decide) ?_
        refine x_putI C hW hS (t := 12) (k := 60) t1 kl_12 (by decide) fl_X12_421 rfl rfl rfl rfl dX12_isList_77 (fun H locs hW hS => ?_)
        obtain ⟨s14, e_s14⟩ : ∃ z : Mem, z = (sI s12 l0 60 (0 : Int32)) := ⟨_, rfl⟩
        replace h := h s14 e_s14
        replace hW : Wd G D tc b0 s14 H := by rw [e_s14]; exact hW
        refine x_aload_n C hl dX12_isList_80 rfl ?_
        refine x_get C hW (t := 12) (k := 32) t1 kl_12 (by decide) fl_X12_92 (v := rv b0 (mR s14 l0 32)) rfl dX12_isList_81 ?_
        refine x_iload C hl dX12_isList_84 rfl ?_
        have t15 := h.1
        replace h := h.2
        have v16 := h.1
        replace h := h.2
        refine x_iald C hW t15 v16 dX12_isList_86 ?_
        refine x_istore C hl dX12_isList_87 (by decide) rfl (fun ls hl => ?_)
        refine lv_iconst (v := (0 : Int32)) hx hb dX12_isList_89 (by decide) ?_
        refine x_istore C hl dX12_isList_90 (by decide) rfl (fun ls hl => ?_)
        exact t_X12_isList_92 C hr hS hW (hl.keep [true, true, false, false, true, true, true, true, false, true, false] rfl) h
      · replace h := h.2 hc
        refine lv_iconst (v := (0 : Int32)) hx hb dX12_isList_43 (by decide) ?_
        exact r_z C hr hW hS h.1 h.2 dX12_isList_44
    · replace h := h.2 hc
      exact t_X12_isList_19 C hr hS hW (hl.keep [false, false, false, false, false, false, false, false, false, false, false] rfl) h
theorem T_X12_isList (l : Launch) {G : Lay} {D : va_G} {tc : Nat → ClassId} {b0 : Nat} (l0 : Nat) (l1 : Int32) (l2 : Int32) (σ : Mem) (Qx : Int32 → Mem → Prop) (h : X_X12_isList G Qx l0 l1 l2 σ) : MI l yX12_isList cX12_isList 11 ((some FieldType.boolean)) rm_X12_isList G D tc b0 [rv b0 l0, .int l1, .int l2] σ Qx :=
  x_entry (y := yX12_isList) [.inr (.inr l0), .inl l1, .inl l2] 8 (by decide) (Nat.le_of_ble_eq_true rfl) (fun p e s m args below meth c ls C hr hW hl => t_X12_isList_0 C hr va_S.rf hW (hl.keep [true, true, true, false, false, false, false, false, false, false, false] rfl) h)
/-! X12_size -/
set_option maxRecDepth 20000 in
set_option maxHeartbeats 4000000 in
theorem t_X12_size_27 {p : Program} {l : Launch} {e : Env} {s : State} {m : MethodId} {args : Array Value} {below : List Frame} {meth : Method} {c : Code} {H : Heap} {locs : List Loc} {D : va_G} {tc : Nat → ClassId} {b0 : Nat} {ls : Array Slot} {G : Lay} {Qx : Int32 → Mem → Prop}  {k0 : Int32} {σ : Mem} (C : Cx p s m args meth c cX12_size RX12 4 D tc b0) (hr : meth.sig.returnType = (some FieldType.int)) (hS : va_S (AA b0) s.heap H locs) (hW : Wd G D tc b0 σ H) (hl : hL b0 ls 4 [none, none, none, none]) (h : X_X12_size_27 G Qx  k0 σ) : W p l e rm_X12_size s m args below meth c H locs 0 0 (MQ below (va_Qi Qx (fun u t => Pw G D tc b0 u t) (AA b0)) args s 0 0 (AA b0)) (F0 m 27 ls [.int k0]) := by
  have hx := C.1
  have hb := C.2.1
  unfold X_X12_size_27 at h
  exact r_i C hr hW hS h dX12_size_27
set_option maxRecDepth 20000 in
set_option maxHeartbeats 4000000 in
theorem t_X12_size_26 {p : Program} {l : Launch} {e : Env} {s : State} {m : MethodId} {args : Array Value} {below : List Frame} {meth : Method} {c : Code} {H : Heap} {locs : List Loc} {D : va_G} {tc : Nat → ClassId} {b0 : Nat} {ls : Array Slot} {G : Lay} {Qx : Int32 → Mem → Prop}   {σ : Mem} (C : Cx p s m args meth c cX12_size RX12 4 D tc b0) (hr : meth.sig.returnType = (some FieldType.int)) (hS : va_S (AA b0) s.heap H locs) (hW : Wd G D tc b0 σ H) (hl : hL b0 ls 4 [none, none, none, none]) (h : X_X12_size_26 G Qx   σ) : W p l e rm_X12_size s m args below meth c H locs 0 0 (MQ below (va_Qi Qx (fun u t => Pw G D tc b0 u t) (AA b0)) args s 0 0 (AA b0)) (F0 m 26 ls []) := by
  have hx := C.1
  have hb := C.2.1
  unfold X_X12_size_26 at h
  refine lv_iconst (v := (-1 : Int32)) hx hb dX12_size_26 (by decide) ?_
  exact t_X12_size_27 C hr hS hW (hl.keep [false, false, false, false] rfl) h
set_option maxRecDepth 20000 in
set_option maxHeartbeats 4000000 in
theorem t_X12_size_0 {p : Program} {l : Launch} {e : Env} {s : State} {m : MethodId} {args : Array Value} {below : List Frame} {meth : Method} {c : Code} {H : Heap} {locs : List Loc} {D : va_G} {tc : Nat → ClassId} {b0 : Nat} {ls : Array Slot} {G : Lay} {Qx : Int32 → Mem → Prop} {l0 : Nat} {l1 : Int32} {l2 : Int32}  {σ : Mem} (C : Cx p s m args meth c cX12_size RX12 4 D tc b0) (hr : meth.sig.returnType = (some FieldType.int)) (hS : va_S (AA b0) s.heap H locs) (hW : Wd G D tc b0 σ H) (hl : hL b0 ls 4 [some (.inr (.inr l0)), some (.inl l1), some (.inl l2), none]) (h : X_X12_size_0 G Qx l0 l1 l2  σ) : W p l e rm_X12_size s m args below meth c H locs 0 0 (MQ below (va_Qi Qx (fun u t => Pw G D tc b0 u t) (AA b0)) args s 0 0 (AA b0)) (F0 m 0 ls []) := by
  have hx := C.1
  have hb := C.2.1
  unfold X_X12_size_0 at h
  refine x_aload_n C hl dX12_size_0 rfl ?_
  refine x_iload_n C hl dX12_size_1 rfl ?_
  have t1 := h.1
  replace h := h.2
  refine y_i (x_run (As := [.int l1]) C hW hS (T_X12_liveOf l l0 l1 σ _ h) t1 kl_12 (CW.of yv_X12_liveOf ml_X12_409) ⟨rfl, rfl, ⟨by decide, by decide⟩, by decide, by decide⟩ rfl hl.1 rfl (by decide) dX12_size_2) hS (fun w3 s2 H locs h hW hS => ?_)
  refine x_istore_n C hl dX12_size_5 (by decide) rfl (fun ls hl => ?_)
  refine x_iload_n C hl dX12_size_6 rfl ?_
  refine lv_if_lt hx hb dX12_size_7 (tgt := 26) rfl (fun hc => ?_) (fun hc => ?_)
  · replace h := h.1 hc
    exact t_X12_size_26 C hr hS hW (hl.keep [false, false, false, false] rfl) h
  · replace h := h.2 hc
    refine x_aload_n C hl dX12_size_10 rfl ?_
    refine x_iload_n C hl dX12_size_11 rfl ?_
    refine x_iload_n C hl dX12_size_12 rfl ?_
    refine y_i (x_run (As := [.int w3, .int l2]) C hW hS (T_X12_isList l l0 w3 l2 s2 _ h) t1 kl_12 (CW.of yv_X12_isList ml_X12_427) ⟨rfl, rfl, ⟨by decide, by decide⟩, by decide, by decide⟩ rfl hl.1 rfl (by decide) dX12_size_13) hS (fun w5 s4 H locs h hW hS => ?_)
    refine lv_if_eq hx hb dX12_size_16 (tgt := 26) rfl (fun hc => ?_) (fun hc => ?_)
    · replace h := h.1 hc
      exact t_X12_size_26 C hr hS hW (hl.keep [false, false, false, false] rfl) h
    · replace h := h.2 hc
      refine x_aload_n C hl dX12_size_19 rfl ?_
      refine x_get C hW (t := 12) (k := 60) t1 kl_12 (by decide) fl_X12_421 (v := .int (mI s4 l0 60)) rfl dX12_size_20 ?_
      refine lv_goto hx hb dX12_size_23 (tgt := 27) rfl ?_
      exact t_X12_size_27 C hr hS hW (hl.keep [false, false, false, false] rfl) h
theorem T_X12_size (l : Launch) {G : Lay} {D : va_G} {tc : Nat → ClassId} {b0 : Nat} (l0 : Nat) (l1 : Int32) (l2 : Int32) (σ : Mem) (Qx : Int32 → Mem → Prop) (h : X_X12_size G Qx l0 l1 l2 σ) : MI l yX12_size cX12_size 4 ((some FieldType.int)) rm_X12_size G D tc b0 [rv b0 l0, .int l1, .int l2] σ Qx :=
  x_entry (y := yX12_size) [.inr (.inr l0), .inl l1, .inl l2] 1 (by decide) (Nat.le_of_ble_eq_true rfl) (fun p e s m args below meth c ls C hr hW hl => t_X12_size_0 C hr va_S.rf hW (hl.keep [true, true, true, false] rfl) h)
/-! X12_item -/
set_option maxRecDepth 20000 in
set_option maxHeartbeats 4000000 in
theorem t_X12_item_34 {p : Program} {l : Launch} {e : Env} {s : State} {m : MethodId} {args : Array Value} {below : List Frame} {meth : Method} {c : Code} {H : Heap} {locs : List Loc} {D : va_G} {tc : Nat → ClassId} {b0 : Nat} {ls : Array Slot} {G : Lay} {Qx : Int32 → Mem → Prop}   {σ : Mem} (C : Cx p s m args meth c cX12_item RX12 6 D tc b0) (hr : meth.sig.returnType = (some FieldType.int)) (hS : va_S (AA b0) s.heap H locs) (hW : Wd G D tc b0 σ H) (hl : hL b0 ls 6 [none, none, none, none, none, none]) (h : X_X12_item_34 G Qx   σ) : W p l e rm_X12_item s m args below meth c H locs 0 0 (MQ below (va_Qi Qx (fun u t => Pw G D tc b0 u t) (AA b0)) args s 0 0 (AA b0)) (F0 m 34 ls []) := by
  have hx := C.1
  have hb := C.2.1
  unfold X_X12_item_34 at h
  refine lv_iconst (v := (-1 : Int32)) hx hb dX12_item_34 (by decide) ?_
  exact r_i C hr hW hS h dX12_item_35
set_option maxRecDepth 20000 in
set_option maxHeartbeats 4000000 in
theorem t_X12_item_89 {p : Program} {l : Launch} {e : Env} {s : State} {m : MethodId} {args : Array Value} {below : List Frame} {meth : Method} {c : Code} {H : Heap} {locs : List Loc} {D : va_G} {tc : Nat → ClassId} {b0 : Nat} {ls : Array Slot} {G : Lay} {Qx : Int32 → Mem → Prop}  {k0 : Int32} {σ : Mem} (C : Cx p s m args meth c cX12_item RX12 6 D tc b0) (hr : meth.sig.returnType = (some FieldType.int)) (hS : va_S (AA b0) s.heap H locs) (hW : Wd G D tc b0 σ H) (hl : hL b0 ls 6 [none, none, none, none, none, none]) (h : X_X12_item_89 G Qx  k0 σ) : W p l e rm_X12_item s m args below meth c H locs 0 0 (MQ below (va_Qi Qx (fun u t => Pw G D tc b0 u t) (AA b0)) args s 0 0 (AA b0)) (F0 m 89 ls [.int k0]) := by
  have hx := C.1
  have hb := C.2.1
  unfold X_X12_item_89 at h
  exact r_i C hr hW hS h dX12_item_89
set_option maxRecDepth 20000 in
set_option maxHeartbeats 4000000 in
theorem t_X12_item_0 {p : Program} {l : Launch} {e : Env} {s : State} {m : MethodId} {args : Array Value} {below : List Frame} {meth : Method} {c : Code} {H : Heap} {locs : List Loc} {D : va_G} {tc : Nat → ClassId} {b0 : Nat} {ls : Array Slot} {G : Lay} {Qx : Int32 → Mem → Prop} {l0 : Nat} {l1 : Int32} {l2 : Int32} {l3 : Int32}  {σ : Mem} (C : Cx p s m args meth c cX12_item RX12 6 D tc b0) (hr : meth.sig.returnType = (some FieldType.int)) (hS : va_S (AA b0) s.heap H locs) (hW : Wd G D tc b0 σ H) (hl : hL b0 ls 6 [some (.inr (.inr l0)), some (.inl l1), some (.inl l2), some (.inl l3), none, none]) (h : X_X12_item_0 G Qx l0 l1 l2 l3  σ) : W p l e rm_X12_item s m args below meth c H locs 0 0 (MQ below (va_Qi Qx (fun u t => Pw G D tc b0 u t) (AA b0)) args s 0 0 (AA b0)) (F0 m 0 ls []) := by
  have hx := C.1
  have hb := C.2.1
  unfold X_X12_item_0 at h
  refine x_aload_n C hl dX12_item_0 rfl ?_
  refine x_iload_n C hl dX12_item_1 rfl ?_
  have t1 := h.1
  replace h := h.2
  refine y_i (x_run (As := [.int l1]) C hW hS (T_X12_liveOf l l0 l1 σ _ h) t1 kl_12 (CW.of yv_X12_liveOf ml_X12_409) ⟨rfl, rfl, ⟨by decide, by decide⟩, by decide, by decide⟩ rfl hl.1 rfl (by decide) dX12_item_2) hS (fun w3 s2 H locs h hW hS => ?_)
  refine x_istore C hl dX12_item_5 (by decide) rfl (fun ls hl => ?_)
  refine x_iload C hl dX12_item_7 rfl ?_
  refine lv_if_lt hx hb dX12_item_9 (tgt := 34) rfl (fun hc => ?_) (fun hc => ?_)
  · replace h := h.1 hc
    exact t_X12_item_34 C hr hS hW (hl.keep [false, false, false, false, false, false] rfl) h
  · replace h := h.2 hc
    refine x_aload_n C hl dX12_item_12 rfl ?_
    refine x_iload C hl dX12_item_13 rfl ?_
    refine x_iload_n C hl dX12_item_15 rfl ?_
    refine y_i (x_run (As := [.int w3, .int l2]) C hW hS (T_X12_isList l l0 w3 l2 s2 _ h) t1 kl_12 (CW.of yv_X12_isList ml_X12_427) ⟨rfl, rfl, ⟨by decide, by decide⟩, by decide, by decide⟩ rfl hl.1 rfl (by decide) dX12_item_16) hS (fun w5 s4 H locs h hW hS => ?_)
    refine lv_if_eq hx hb dX12_item_19 (tgt := 34) rfl (fun hc => ?_) (fun hc => ?_)
    · replace h := h.1 hc
      exact t_X12_item_34 C hr hS hW (hl.keep [false, false, false, false, false, false] rfl) h
    · replace h := h.2 hc
      refine x_iload_n C hl dX12_item_22 rfl ?_
      refine lv_if_lt hx hb dX12_item_23 (tgt := 34) rfl (fun hc => ?_) (fun hc => ?_)
      · replace h := h.1 hc
        exact t_X12_item_34 C hr hS hW (hl.keep [false, false, false, false, false, false] rfl) h
      · replace h := h.2 hc
        refine x_iload_n C hl dX12_item_26 rfl ?_
        refine x_aload_n C hl dX12_item_27 rfl ?_
        refine x_get C hW (t := 12) (k := 60) t1 kl_12 (by decide) fl_X12_421 (v := .int (mI s4 l0 60)) rfl dX12_item_28 ?_
        refine lv_icmp_lt hx hb dX12_item_31 (tgt := 36) rfl (fun hc => ?_) (fun hc => ?_)
        · replace h := h.1 hc
          refine x_aload_n C hl dX12_item_36 rfl ?_
          refine x_iload C hl dX12_item_37 rfl ?_
          refine lv_bipush (v := (60 : Int32)) hx hb dX12_item_39 (by decide) ?_
          refine lv_idiv hx hb dX12_item_41 (by decide) ?_
          refine x_aload_n C hl dX12_item_42 rfl ?_
          refine x_aload_n C hl dX12_item_43 rfl ?_
          refine x_get C hW (t := 12) (k := 10) t1 kl_12 (by decide) fl_X12_35 (v := rv b0 (mR s4 l0 10)) rfl dX12_item_44 ?_
          refine lv_bipush (v := (16 : Int32)) hx hb dX12_item_47 (by decide) ?_
          refine x_aload_n C hl dX12_item_49 rfl ?_
          refine x_get C hW (t := 12) (k := 45) t1 kl_12 (by decide) fl_X12_129 (v := rv b0 (mR s4 l0 45)) rfl dX12_item_50 ?_
          refine x_iload C hl dX12_item_53 rfl ?_
          have t6 := h.1
          replace h := h.2
          have v7 := h.1
          replace h := h.2
          refine x_iald C hW t6 v7 dX12_item_55 ?_
          refine lv_imul hx hb dX12_item_56 ?_
          refine x_iload_n C hl dX12_item_57 rfl ?_
          refine lv_iadd hx hb dX12_item_58 ?_
          have t8 := h.1
          replace h := h.2
          have v9 := h.1
          replace h := h.2
          refine x_iald C hW t8 v9 dX12_item_59 ?_
          refine y_i (x_run (As := [.int (mI s4 (mR s4 l0 10) (((16 : Int32) * (mI s4 (mR s4 l0 45) w3.toNatClampNeg)) + l2).toNatClampNeg)]) C hW hS (T_X12_rootOf l l0 (mI s4 (mR s4 l0 10) (((16 : Int32) * (mI s4 (mR s4 l0 45) w3.toNatClampNeg)) + l2).toNatClampNeg) s4 _ h) t1 kl_12 (CW.of yv_X12_rootOf ml_X12_353) ⟨rfl, rfl, ⟨by decide, by decide⟩, by decide, by decide⟩ rfl hl.1 rfl (by simp [rv_cat, cat_i, cat_l]) dX12_item_60) hS (fun w11 s10 H locs h hW hS => ?_)
          refine x_aload_n C hl dX12_item_63 rfl ?_
          refine x_get C hW (t := 12) (k := 61) t1 kl_12 (by decide) fl_X12_148 (v := rv b0 (mR s10 l0 61)) rfl dX12_item_64 ?_
          refine x_iload_n C hl dX12_item_67 rfl ?_
          have t12 := h.1
          replace h := h.2
          have v13 := h.1
          replace h := h.2
          refine x_iald C hW t12 v13 dX12_item_68 ?_
          refine y_i (x_run (As := [.int (w3 / (60 : Int32)), .int w11, .int (mI s10 (mR s10 l0 61) l3.toNatClampNeg)]) C hW hS (T_X12_meet l l0 (w3 / (60 : Int32)) w11 (mI s10 (mR s10 l0 61) l3.toNatClampNeg) s10 _ h) t1 kl_12 (CW.of yv_X12_meet ml_X12_406) ⟨rfl, rfl, ⟨by decide, by decide⟩, by decide, by decide⟩ rfl hl.1 rfl (by decide) dX12_item_69) hS (fun w15 s14 H locs h hW hS => ?_)
          refine x_istore C hl dX12_item_72 (by decide) rfl (fun ls hl => ?_)
          refine x_iload C hl dX12_item_74 rfl ?_
          refine lv_if_ge hx hb dX12_item_76 (tgt := 84) rfl (fun hc => ?_) (fun hc => ?_)
          · replace h := h.1 hc
            refine x_iload C hl dX12_item_84 rfl ?_
            refine y_i (x_runS (As := [.int w15]) C hW hS (T_X12_numberOf l w15 s14 _ h) (CS.of yv_X12_numberOf ml_X12_403) ⟨rfl, rfl, ⟨by decide, by decide⟩, by decide, by decide⟩ rfl hl.1 rfl (by decide) dX12_item_86) hS (fun w17 s16 H locs h hW hS => ?_)
            exact t_X12_item_89 C hr hS hW (hl.keep [false, false, false, false, false, false] rfl) h
          · replace h := h.2 hc
            refine lv_bipush (v := (-2 : Int32)) hx hb dX12_item_79 (by decide) ?_
            refine lv_goto hx hb dX12_item_81 (tgt := 89) rfl ?_
            exact t_X12_item_89 C hr hS hW (hl.keep [false, false, false, false, false, false] rfl) h
        · replace h := h.2 hc
          exact t_X12_item_34 C hr hS hW (hl.keep [false, false, false, false, false, false] rfl) h
theorem T_X12_item (l : Launch) {G : Lay} {D : va_G} {tc : Nat → ClassId} {b0 : Nat} (l0 : Nat) (l1 : Int32) (l2 : Int32) (l3 : Int32) (σ : Mem) (Qx : Int32 → Mem → Prop) (h : X_X12_item G Qx l0 l1 l2 l3 σ) : MI l yX12_item cX12_item 6 ((some FieldType.int)) rm_X12_item G D tc b0 [rv b0 l0, .int l1, .int l2, .int l3] σ Qx :=
  x_entry (y := yX12_item) [.inr (.inr l0), .inl l1, .inl l2, .inl l3] 2 (by decide) (Nat.le_of_ble_eq_true rfl) (fun p e s m args below meth c ls C hr hW hl => t_X12_item_0 C hr va_S.rf hW (hl.keep [true, true, true, true, false, false] rfl) h)
/-! X12_drop -/
set_option maxRecDepth 20000 in
set_option maxHeartbeats 4000000 in
theorem t_X12_drop_292 {p : Program} {l : Launch} {e : Env} {s : State} {m : MethodId} {args : Array Value} {below : List Frame} {meth : Method} {c : Code} {H : Heap} {locs : List Loc} {D : va_G} {tc : Nat → ClassId} {b0 : Nat} {ls : Array Slot} {G : Lay} {Qx : Int32 → Mem → Prop} {l0 : Nat} {l3 : Int32} {l4 : Int32} {l5 : Int32} {l6 : Int32} {l7 : Int32} {l8 : Int32} {l9 : Int32} {l10 : Int32} {l11 : Int32} {l13 : Int32} {k0 : Int32} {K30 : Int32 × Int32 × Mem → Prop} {K49 : Int32 × Int32 × Mem → Prop} {K198 : Int32 × Int32 × Mem → Prop} {K263 : Int32 × Int32 × Mem → Prop} {σ : Mem} (C : Cx p s m args meth c cX12_drop RX12 14 D tc b0) (hr : meth.sig.returnType = (some FieldType.int)) (hK30 : ∀ (x4 : Int32) (x5 : Int32) (σ : Mem) (H : Heap) (locs : List Loc) (ls : Array Slot), va_S (AA b0) s.heap H locs → Wd G D tc b0 σ H → hL b0 ls 14 [some (.inr (.inr l0)), none, none, some (.inl l3), some (.inl x4), some (.inl x5), none, none, none, none, none, none, none, none] → K30 (x4, x5, σ) → W p l e rm_X12_drop s m args below meth c H locs 0 0 (MQ below (va_Qi Qx (fun u t => Pw G D tc b0 u t) (AA b0)) args s 0 0 (AA b0)) (F0 m 30 ls [])) (hK49 : ∀ (x4 : Int32) (x7 : Int32) (σ : Mem) (H : Heap) (locs : List Loc) (ls : Array Slot), va_S (AA b0) s.heap H locs → Wd G D tc b0 σ H → hL b0 ls 14 [some (.inr (.inr l0)), none, none, some (.inl l3), some (.inl x4), some (.inl l5), some (.inl l6), some (.inl x7), none, none, none, none, none, none] → K49 (x4, x7, σ) → W p l e rm_X12_drop s m args below meth c H locs 0 0 (MQ below (va_Qi Qx (fun u t => Pw G D tc b0 u t) (AA b0)) args s 0 0 (AA b0)) (F0 m 49 ls [])) (hK198 : ∀ (x4 : Int32) (x10 : Int32) (σ : Mem) (H : Heap) (locs : List Loc) (ls : Array Slot), va_S (AA b0) s.heap H locs → Wd G D tc b0 σ H → hL b0 ls 14 [some (.inr (.inr l0)), none, none, some (.inl l3), some (.inl x4), some (.inl l5), some (.inl l6), some (.inl l7), some (.inl l8), some (.inl l9), some (.inl x10), none, none, none] → K198 (x4, x10, σ) → W p l e rm_X12_drop s m args below meth c H locs 0 0 (MQ below (va_Qi Qx (fun u t => Pw G D tc b0 u t) (AA b0)) args s 0 0 (AA b0)) (F0 m 198 ls [])) (hK263 : ∀ (x12 : Int32) (x13 : Int32) (σ : Mem) (H : Heap) (locs : List Loc) (ls : Array Slot), va_S (AA b0) s.heap H locs → Wd G D tc b0 σ H → hL b0 ls 14 [some (.inr (.inr l0)), none, none, some (.inl l3), some (.inl l4), some (.inl l5), some (.inl l6), some (.inl l7), some (.inl l8), some (.inl l9), some (.inl l10), some (.inl l11), some (.inl x12), some (.inl x13)] → K263 (x12, x13, σ) → W p l e rm_X12_drop s m args below meth c H locs 0 0 (MQ below (va_Qi Qx (fun u t => Pw G D tc b0 u t) (AA b0)) args s 0 0 (AA b0)) (F0 m 263 ls [])) (hS : va_S (AA b0) s.heap H locs) (hW : Wd G D tc b0 σ H) (hl : hL b0 ls 14 [some (.inr (.inr l0)), none, none, some (.inl l3), some (.inl l4), some (.inl l5), some (.inl l6), some (.inl l7), some (.inl l8), some (.inl l9), some (.inl l10), some (.inl l11), none, some (.inl l13)]) (h : X_X12_drop_292 G Qx K30 K49 K198 K263 l0 l3 l4 l5 l6 l7 l8 l9 l10 l11 l13 k0 σ) : W p l e rm_X12_drop s m args below meth c H locs 0 0 (MQ below (va_Qi Qx (fun u t => Pw G D tc b0 u t) (AA b0)) args s 0 0 (AA b0)) (F0 m 292 ls [.int k0]) := by
  have hx := C.1
  have hb := C.2.1
  unfold X_X12_drop_292 at h
  refine x_istore C hl dX12_drop_292 (by decide) rfl (fun ls hl => ?_)
  refine x_iinc C hl dX12_drop_294 rfl (v := (1 : Int32)) (by decide) (by decide) rfl (fun ls hl => ?_)
  refine lv_goto hx hb dX12_drop_297 (tgt := 263) rfl ?_
  exact hK263 _ _ _ _ _ _ hS hW (hl.keep [true, false, false, true, true, true, true, true, true, true, true, true, true, true] rfl) h
set_option maxRecDepth 20000 in
set_option maxHeartbeats 4000000 in
theorem t_X12_drop_287 {p : Program} {l : Launch} {e : Env} {s : State} {m : MethodId} {args : Array Value} {below : List Frame} {meth : Method} {c : Code} {H : Heap} {locs : List Loc} {D : va_G} {tc : Nat → ClassId} {b0 : Nat} {ls : Array Slot} {G : Lay} {Qx : Int32 → Mem → Prop} {l0 : Nat} {l3 : Int32} {l4 : Int32} {l5 : Int32} {l6 : Int32} {l7 : Int32} {l8 : Int32} {l9 : Int32} {l10 : Int32} {l11 : Int32} {l13 : Int32}  {K30 : Int32 × Int32 × Mem → Prop} {K49 : Int32 × Int32 × Mem → Prop} {K198 : Int32 × Int32 × Mem → Prop} {K263 : Int32 × Int32 × Mem → Prop} {σ : Mem} (C : Cx p s m args meth c cX12_drop RX12 14 D tc b0) (hr : meth.sig.returnType = (some FieldType.int)) (hK30 : ∀ (x4 : Int32) (x5 : Int32) (σ : Mem) (H : Heap) (locs : List Loc) (ls : Array Slot), va_S (AA b0) s.heap H locs → Wd G D tc b0 σ H → hL b0 ls 14 [some (.inr (.inr l0)), none, none, some (.inl l3), some (.inl x4), some (.inl x5), none, none, none, none, none, none, none, none] → K30 (x4, x5, σ) → W p l e rm_X12_drop s m args below meth c H locs 0 0 (MQ below (va_Qi Qx (fun u t => Pw G D tc b0 u t) (AA b0)) args s 0 0 (AA b0)) (F0 m 30 ls [])) (hK49 : ∀ (x4 : Int32) (x7 : Int32) (σ : Mem) (H : Heap) (locs : List Loc) (ls : Array Slot), va_S (AA b0) s.heap H locs → Wd G D tc b0 σ H → hL b0 ls 14 [some (.inr (.inr l0)), none, none, some (.inl l3), some (.inl x4), some (.inl l5), some (.inl l6), some (.inl x7), none, none, none, none, none, none] → K49 (x4, x7, σ) → W p l e rm_X12_drop s m args below meth c H locs 0 0 (MQ below (va_Qi Qx (fun u t => Pw G D tc b0 u t) (AA b0)) args s 0 0 (AA b0)) (F0 m 49 ls [])) (hK198 : ∀ (x4 : Int32) (x10 : Int32) (σ : Mem) (H : Heap) (locs : List Loc) (ls : Array Slot), va_S (AA b0) s.heap H locs → Wd G D tc b0 σ H → hL b0 ls 14 [some (.inr (.inr l0)), none, none, some (.inl l3), some (.inl x4), some (.inl l5), some (.inl l6), some (.inl l7), some (.inl l8), some (.inl l9), some (.inl x10), none, none, none] → K198 (x4, x10, σ) → W p l e rm_X12_drop s m args below meth c H locs 0 0 (MQ below (va_Qi Qx (fun u t => Pw G D tc b0 u t) (AA b0)) args s 0 0 (AA b0)) (F0 m 198 ls [])) (hK263 : ∀ (x12 : Int32) (x13 : Int32) (σ : Mem) (H : Heap) (locs : List Loc) (ls : Array Slot), va_S (AA b0) s.heap H locs → Wd G D tc b0 σ H → hL b0 ls 14 [some (.inr (.inr l0)), none, none, some (.inl l3), some (.inl l4), some (.inl l5), some (.inl l6), some (.inl l7), some (.inl l8), some (.inl l9), some (.inl l10), some (.inl l11), some (.inl x12), some (.inl x13)] → K263 (x12, x13, σ) → W p l e rm_X12_drop s m args below meth c H locs 0 0 (MQ below (va_Qi Qx (fun u t => Pw G D tc b0 u t) (AA b0)) args s 0 0 (AA b0)) (F0 m 263 ls [])) (hS : va_S (AA b0) s.heap H locs) (hW : Wd G D tc b0 σ H) (hl : hL b0 ls 14 [some (.inr (.inr l0)), none, none, some (.inl l3), some (.inl l4), some (.inl l5), some (.inl l6), some (.inl l7), some (.inl l8), some (.inl l9), some (.inl l10), some (.inl l11), none, some (.inl l13)]) (h : X_X12_drop_287 G Qx K30 K49 K198 K263 l0 l3 l4 l5 l6 l7 l8 l9 l10 l11 l13  σ) : W p l e rm_X12_drop s m args below meth c H locs 0 0 (MQ below (va_Qi Qx (fun u t => Pw G D tc b0 u t) (AA b0)) args s 0 0 (AA b0)) (F0 m 287 ls []) := by
  have hx := C.1
  have hb := C.2.1
  unfold X_X12_drop_287 at h
  refine lv_iconst (v := (1 : Int32)) hx hb dX12_drop_287 (by decide) ?_
  refine lv_goto hx hb dX12_drop_288 (tgt := 292) rfl ?_
  exact t_X12_drop_292 C hr hK30 hK49 hK198 hK263 hS hW (hl.keep [true, false, false, true, true, true, true, true, true, true, true, true, false, true] rfl) h
set_option maxRecDepth 20000 in
set_option maxHeartbeats 4000000 in
theorem t_X12_drop_320 {p : Program} {l : Launch} {e : Env} {s : State} {m : MethodId} {args : Array Value} {below : List Frame} {meth : Method} {c : Code} {H : Heap} {locs : List Loc} {D : va_G} {tc : Nat → ClassId} {b0 : Nat} {ls : Array Slot} {G : Lay} {Qx : Int32 → Mem → Prop} {l0 : Nat} {l3 : Int32} {l4 : Int32} {l5 : Int32} {l6 : Int32} {l7 : Int32} {l8 : Int32} {l9 : Int32} {l10 : Int32}  {K30 : Int32 × Int32 × Mem → Prop} {K49 : Int32 × Int32 × Mem → Prop} {K198 : Int32 × Int32 × Mem → Prop} {σ : Mem} (C : Cx p s m args meth c cX12_drop RX12 14 D tc b0) (hr : meth.sig.returnType = (some FieldType.int)) (hK30 : ∀ (x4 : Int32) (x5 : Int32) (σ : Mem) (H : Heap) (locs : List Loc) (ls : Array Slot), va_S (AA b0) s.heap H locs → Wd G D tc b0 σ H → hL b0 ls 14 [some (.inr (.inr l0)), none, none, some (.inl l3), some (.inl x4), some (.inl x5), none, none, none, none, none, none, none, none] → K30 (x4, x5, σ) → W p l e rm_X12_drop s m args below meth c H locs 0 0 (MQ below (va_Qi Qx (fun u t => Pw G D tc b0 u t) (AA b0)) args s 0 0 (AA b0)) (F0 m 30 ls [])) (hK49 : ∀ (x4 : Int32) (x7 : Int32) (σ : Mem) (H : Heap) (locs : List Loc) (ls : Array Slot), va_S (AA b0) s.heap H locs → Wd G D tc b0 σ H → hL b0 ls 14 [some (.inr (.inr l0)), none, none, some (.inl l3), some (.inl x4), some (.inl l5), some (.inl l6), some (.inl x7), none, none, none, none, none, none] → K49 (x4, x7, σ) → W p l e rm_X12_drop s m args below meth c H locs 0 0 (MQ below (va_Qi Qx (fun u t => Pw G D tc b0 u t) (AA b0)) args s 0 0 (AA b0)) (F0 m 49 ls [])) (hK198 : ∀ (x4 : Int32) (x10 : Int32) (σ : Mem) (H : Heap) (locs : List Loc) (ls : Array Slot), va_S (AA b0) s.heap H locs → Wd G D tc b0 σ H → hL b0 ls 14 [some (.inr (.inr l0)), none, none, some (.inl l3), some (.inl x4), some (.inl l5), some (.inl l6), some (.inl l7), some (.inl l8), some (.inl l9), some (.inl x10), none, none, none] → K198 (x4, x10, σ) → W p l e rm_X12_drop s m args below meth c H locs 0 0 (MQ below (va_Qi Qx (fun u t => Pw G D tc b0 u t) (AA b0)) args s 0 0 (AA b0)) (F0 m 198 ls [])) (hS : va_S (AA b0) s.heap H locs) (hW : Wd G D tc b0 σ H) (hl : hL b0 ls 14 [some (.inr (.inr l0)), none, none, some (.inl l3), some (.inl l4), some (.inl l5), some (.inl l6), some (.inl l7), some (.inl l8), some (.inl l9), some (.inl l10), none, none, none]) (h : X_X12_drop_320 G Qx K30 K49 K198 l0 l3 l4 l5 l6 l7 l8 l9 l10  σ) : W p l e rm_X12_drop s m args below meth c H locs 0 0 (MQ below (va_Qi Qx (fun u t => Pw G D tc b0 u t) (AA b0)) args s 0 0 (AA b0)) (F0 m 320 ls []) := by
  have hx := C.1
  have hb := C.2.1
  unfold X_X12_drop_320 at h
  refine x_iinc C hl dX12_drop_320 rfl (v := (1 : Int32)) (by decide) (by decide) rfl (fun ls hl => ?_)
  refine lv_goto hx hb dX12_drop_323 (tgt := 198) rfl ?_
  exact hK198 _ _ _ _ _ _ hS hW (hl.keep [true, false, false, true, true, true, true, true, true, true, true, false, false, false] rfl) h
set_option maxRecDepth 20000 in
set_option maxHeartbeats 4000000 in
theorem t_X12_drop_263_n {p : Program} {l : Launch} {e : Env} {s : State} {m : MethodId} {args : Array Value} {below : List Frame} {meth : Method} {c : Code} {D : va_G} {tc : Nat → ClassId} {b0 : Nat} {G : Lay} {Qx : Int32 → Mem → Prop} {l0 : Nat} {l3 : Int32} {l4 : Int32} {l5 : Int32} {l6 : Int32} {l7 : Int32} {l8 : Int32} {l9 : Int32} {l10 : Int32} {l11 : Int32} {K30 : Int32 × Int32 × Mem → Prop} {K49 : Int32 × Int32 × Mem → Prop} {K198 : Int32 × Int32 × Mem → Prop} (C : Cx p s m args meth c cX12_drop RX12 14 D tc b0) (hr : meth.sig.returnType = (some FieldType.int)) (hK30 : ∀ (x4 : Int32) (x5 : Int32) (σ : Mem) (H : Heap) (locs : List Loc) (ls : Array Slot), va_S (AA b0) s.heap H locs → Wd G D tc b0 σ H → hL b0 ls 14 [some (.inr (.inr l0)), none, none, some (.inl l3), some (.inl x4), some (.inl x5), none, none, none, none, none, none, none, none] → K30 (x4, x5, σ) → W p l e rm_X12_drop s m args below meth c H locs 0 0 (MQ below (va_Qi Qx (fun u t => Pw G D tc b0 u t) (AA b0)) args s 0 0 (AA b0)) (F0 m 30 ls [])) (hK49 : ∀ (x4 : Int32) (x7 : Int32) (σ : Mem) (H : Heap) (locs : List Loc) (ls : Array Slot), va_S (AA b0) s.heap H locs → Wd G D tc b0 σ H → hL b0 ls 14 [some (.inr (.inr l0)), none, none, some (.inl l3), some (.inl x4), some (.inl l5), some (.inl l6), some (.inl x7), none, none, none, none, none, none] → K49 (x4, x7, σ) → W p l e rm_X12_drop s m args below meth c H locs 0 0 (MQ below (va_Qi Qx (fun u t => Pw G D tc b0 u t) (AA b0)) args s 0 0 (AA b0)) (F0 m 49 ls [])) (hK198 : ∀ (x4 : Int32) (x10 : Int32) (σ : Mem) (H : Heap) (locs : List Loc) (ls : Array Slot), va_S (AA b0) s.heap H locs → Wd G D tc b0 σ H → hL b0 ls 14 [some (.inr (.inr l0)), none, none, some (.inl l3), some (.inl x4), some (.inl l5), some (.inl l6), some (.inl l7), some (.inl l8), some (.inl l9), some (.inl x10), none, none, none] → K198 (x4, x10, σ) → W p l e rm_X12_drop s m args below meth c H locs 0 0 (MQ below (va_Qi Qx (fun u t => Pw G D tc b0 u t) (AA b0)) args s 0 0 (AA b0)) (F0 m 198 ls [])) (n : Nat) : ∀ (l12 : Int32) (l13 : Int32) (σ : Mem) (H : Heap) (locs : List Loc) (ls : Array Slot), va_S (AA b0) s.heap H locs → Wd G D tc b0 σ H → hL b0 ls 14 [some (.inr (.inr l0)), none, none, some (.inl l3), some (.inl l4), some (.inl l5), some (.inl l6), some (.inl l7), some (.inl l8), some (.inl l9), some (.inl l10), some (.inl l11), some (.inl l12), some (.inl l13)] → Lp (X_X12_drop_263_s G Qx K30 K49 K198 l0 l3 l4 l5 l6 l7 l8 l9 l10 l11) n (l12, l13, σ) → W p l e rm_X12_drop s m args below meth c H locs 0 0 (MQ below (va_Qi Qx (fun u t => Pw G D tc b0 u t) (AA b0)) args s 0 0 (AA b0)) (F0 m 263 ls []) := by
  have hx := C.1
  have hb := C.2.1
  induction n with
  | zero => intro l12 l13 σ H locs ls hS hW hl h; exact False.elim h
  | succ n hK263 =>
    intro l12 l13 σ H locs ls hS hW hl h
    replace h : X_X12_drop_263_s G Qx K30 K49 K198 l0 l3 l4 l5 l6 l7 l8 l9 l10 l11 (Lp (X_X12_drop_263_s G Qx K30 K49 K198 l0 l3 l4 l5 l6 l7 l8 l9 l10 l11) n) (l12, l13, σ) := h
    unfold X_X12_drop_263_s at h
    refine x_iload C hl dX12_drop_263 rfl ?_
    refine x_iload C hl dX12_drop_265 rfl ?_
    refine lv_icmp_ge hx hb dX12_drop_267 (tgt := 300) rfl (fun hc => ?_) (fun hc => ?_)
    · replace h := h.1 hc
      refine x_iload C hl dX12_drop_300 rfl ?_
      refine lv_if_eq hx hb dX12_drop_302 (tgt := 308) rfl (fun hc => ?_) (fun hc => ?_)
      · replace h := h.1 hc
        refine x_aload_n C hl dX12_drop_308 rfl ?_
        have t1 := h.1
        replace h := h.2
        refine x_get C hW (t := 12) (k := 62) t1 kl_12 (by decide) fl_X12_151 (v := rv b0 (mR σ l0 62)) rfl dX12_drop_309 ?_
        refine x_iload C hl dX12_drop_312 rfl ?_
        refine x_iload C hl dX12_drop_314 rfl ?_
        have t2 := h.1
        replace h := h.2
        have v3 := h.1
        replace h := h.2
        refine x_iast C hW hS t2 v3 dX12_drop_316 (fun H locs hW hS => ?_)
        obtain ⟨s4, e_s4⟩ : ∃ z : Mem, z = (sI σ (mR σ l0 62) l4.toNatClampNeg l11) := ⟨_, rfl⟩
        replace h := h s4 e_s4
        replace hW : Wd G D tc b0 s4 H := by rw [e_s4]; exact hW
        refine x_iinc C hl dX12_drop_317 rfl (v := (1 : Int32)) (by decide) (by decide) rfl (fun ls hl => ?_)
        exact t_X12_drop_320 C hr hK30 hK49 hK198 hS hW (hl.keep [true, false, false, true, true, true, true, true, true, true, true, false, false, false] rfl) h
      · replace h := h.2 hc
        refine lv_goto hx hb dX12_drop_305 (tgt := 320) rfl ?_
        exact t_X12_drop_320 C hr hK30 hK49 hK198 hS hW (hl.keep [true, false, false, true, true, true, true, true, true, true, true, false, false, false] rfl) h
    · replace h := h.2 hc
      refine x_iload C hl dX12_drop_270 rfl ?_
      refine lv_if_ne hx hb dX12_drop_272 (tgt := 287) rfl (fun hc => ?_) (fun hc => ?_)
      · replace h := h.2 hc
        exact t_X12_drop_287 C hr hK30 hK49 hK198 hK263 hS hW (hl.keep [true, false, false, true, true, true, true, true, true, true, true, true, false, true] rfl) h
      · replace h := h.1 hc
        refine x_aload_n C hl dX12_drop_275 rfl ?_
        have t5 := h.1
        replace h := h.2
        refine x_get C hW (t := 12) (k := 62) t5 kl_12 (by decide) fl_X12_151 (v := rv b0 (mR σ l0 62)) rfl dX12_drop_276 ?_
        refine x_iload C hl dX12_drop_279 rfl ?_
        have t6 := h.1
        replace h := h.2
        have v7 := h.1
        replace h := h.2
        refine x_iald C hW t6 v7 dX12_drop_281 ?_
        refine x_iload C hl dX12_drop_282 rfl ?_
        refine lv_icmp_ne hx hb dX12_drop_284 (tgt := 291) rfl (fun hc => ?_) (fun hc => ?_)
        · replace h := h.2 hc
          refine lv_iconst (v := (0 : Int32)) hx hb dX12_drop_291 (by decide) ?_
          exact t_X12_drop_292 C hr hK30 hK49 hK198 hK263 hS hW (hl.keep [true, false, false, true, true, true, true, true, true, true, true, true, false, true] rfl) h
        · replace h := h.1 hc
          exact t_X12_drop_287 C hr hK30 hK49 hK198 hK263 hS hW (hl.keep [true, false, false, true, true, true, true, true, true, true, true, true, false, true] rfl) h
set_option maxRecDepth 20000 in
set_option maxHeartbeats 4000000 in
theorem t_X12_drop_263 {p : Program} {l : Launch} {e : Env} {s : State} {m : MethodId} {args : Array Value} {below : List Frame} {meth : Method} {c : Code} {H : Heap} {locs : List Loc} {D : va_G} {tc : Nat → ClassId} {b0 : Nat} {ls : Array Slot} {G : Lay} {Qx : Int32 → Mem → Prop} {l0 : Nat} {l3 : Int32} {l4 : Int32} {l5 : Int32} {l6 : Int32} {l7 : Int32} {l8 : Int32} {l9 : Int32} {l10 : Int32} {l11 : Int32} {l12 : Int32} {l13 : Int32}  {K30 : Int32 × Int32 × Mem → Prop} {K49 : Int32 × Int32 × Mem → Prop} {K198 : Int32 × Int32 × Mem → Prop} {σ : Mem} (C : Cx p s m args meth c cX12_drop RX12 14 D tc b0) (hr : meth.sig.returnType = (some FieldType.int)) (hK30 : ∀ (x4 : Int32) (x5 : Int32) (σ : Mem) (H : Heap) (locs : List Loc) (ls : Array Slot), va_S (AA b0) s.heap H locs → Wd G D tc b0 σ H → hL b0 ls 14 [some (.inr (.inr l0)), none, none, some (.inl l3), some (.inl x4), some (.inl x5), none, none, none, none, none, none, none, none] → K30 (x4, x5, σ) → W p l e rm_X12_drop s m args below meth c H locs 0 0 (MQ below (va_Qi Qx (fun u t => Pw G D tc b0 u t) (AA b0)) args s 0 0 (AA b0)) (F0 m 30 ls [])) (hK49 : ∀ (x4 : Int32) (x7 : Int32) (σ : Mem) (H : Heap) (locs : List Loc) (ls : Array Slot), va_S (AA b0) s.heap H locs → Wd G D tc b0 σ H → hL b0 ls 14 [some (.inr (.inr l0)), none, none, some (.inl l3), some (.inl x4), some (.inl l5), some (.inl l6), some (.inl x7), none, none, none, none, none, none] → K49 (x4, x7, σ) → W p l e rm_X12_drop s m args below meth c H locs 0 0 (MQ below (va_Qi Qx (fun u t => Pw G D tc b0 u t) (AA b0)) args s 0 0 (AA b0)) (F0 m 49 ls [])) (hK198 : ∀ (x4 : Int32) (x10 : Int32) (σ : Mem) (H : Heap) (locs : List Loc) (ls : Array Slot), va_S (AA b0) s.heap H locs → Wd G D tc b0 σ H → hL b0 ls 14 [some (.inr (.inr l0)), none, none, some (.inl l3), some (.inl x4), some (.inl l5), some (.inl l6), some (.inl l7), some (.inl l8), some (.inl l9), some (.inl x10), none, none, none] → K198 (x4, x10, σ) → W p l e rm_X12_drop s m args below meth c H locs 0 0 (MQ below (va_Qi Qx (fun u t => Pw G D tc b0 u t) (AA b0)) args s 0 0 (AA b0)) (F0 m 198 ls [])) (hS : va_S (AA b0) s.heap H locs) (hW : Wd G D tc b0 σ H) (hl : hL b0 ls 14 [some (.inr (.inr l0)), none, none, some (.inl l3), some (.inl l4), some (.inl l5), some (.inl l6), some (.inl l7), some (.inl l8), some (.inl l9), some (.inl l10), some (.inl l11), some (.inl l12), some (.inl l13)]) (h : X_X12_drop_263 G Qx K30 K49 K198 l0 l3 l4 l5 l6 l7 l8 l9 l10 l11 l12 l13 σ) : W p l e rm_X12_drop s m args below meth c H locs 0 0 (MQ below (va_Qi Qx (fun u t => Pw G D tc b0 u t) (AA b0)) args s 0 0 (AA b0)) (F0 m 263 ls []) := by
  obtain ⟨n, h⟩ := h
  exact t_X12_drop_263_n C hr hK30 hK49 hK198 n l12 l13 σ H locs ls hS hW hl h
set_option maxRecDepth 20000 in
set_option maxHeartbeats 4000000 in
theorem t_X12_drop_258 {p : Program} {l : Launch} {e : Env} {s : State} {m : MethodId} {args : Array Value} {below : List Frame} {meth : Method} {c : Code} {H : Heap} {locs : List Loc} {D : va_G} {tc : Nat → ClassId} {b0 : Nat} {ls : Array Slot} {G : Lay} {Qx : Int32 → Mem → Prop} {l0 : Nat} {l3 : Int32} {l4 : Int32} {l5 : Int32} {l6 : Int32} {l7 : Int32} {l8 : Int32} {l9 : Int32} {l10 : Int32} {l11 : Int32} {k0 : Int32} {K30 : Int32 × Int32 × Mem → Prop} {K49 : Int32 × Int32 × Mem → Prop} {K198 : Int32 × Int32 × Mem → Prop} {σ : Mem} (C : Cx p s m args meth c cX12_drop RX12 14 D tc b0) (hr : meth.sig.returnType = (some FieldType.int)) (hK30 : ∀ (x4 : Int32) (x5 : Int32) (σ : Mem) (H : Heap) (locs : List Loc) (ls : Array Slot), va_S (AA b0) s.heap H locs → Wd G D tc b0 σ H → hL b0 ls 14 [some (.inr (.inr l0)), none, none, some (.inl l3), some (.inl x4), some (.inl x5), none, none, none, none, none, none, none, none] → K30 (x4, x5, σ) → W p l e rm_X12_drop s m args below meth c H locs 0 0 (MQ below (va_Qi Qx (fun u t => Pw G D tc b0 u t) (AA b0)) args s 0 0 (AA b0)) (F0 m 30 ls [])) (hK49 : ∀ (x4 : Int32) (x7 : Int32) (σ : Mem) (H : Heap) (locs : List Loc) (ls : Array Slot), va_S (AA b0) s.heap H locs → Wd G D tc b0 σ H → hL b0 ls 14 [some (.inr (.inr l0)), none, none, some (.inl l3), some (.inl x4), some (.inl l5), some (.inl l6), some (.inl x7), none, none, none, none, none, none] → K49 (x4, x7, σ) → W p l e rm_X12_drop s m args below meth c H locs 0 0 (MQ below (va_Qi Qx (fun u t => Pw G D tc b0 u t) (AA b0)) args s 0 0 (AA b0)) (F0 m 49 ls [])) (hK198 : ∀ (x4 : Int32) (x10 : Int32) (σ : Mem) (H : Heap) (locs : List Loc) (ls : Array Slot), va_S (AA b0) s.heap H locs → Wd G D tc b0 σ H → hL b0 ls 14 [some (.inr (.inr l0)), none, none, some (.inl l3), some (.inl x4), some (.inl l5), some (.inl l6), some (.inl l7), some (.inl l8), some (.inl l9), some (.inl x10), none, none, none] → K198 (x4, x10, σ) → W p l e rm_X12_drop s m args below meth c H locs 0 0 (MQ below (va_Qi Qx (fun u t => Pw G D tc b0 u t) (AA b0)) args s 0 0 (AA b0)) (F0 m 198 ls [])) (hS : va_S (AA b0) s.heap H locs) (hW : Wd G D tc b0 σ H) (hl : hL b0 ls 14 [some (.inr (.inr l0)), none, none, some (.inl l3), some (.inl l4), some (.inl l5), some (.inl l6), some (.inl l7), some (.inl l8), some (.inl l9), some (.inl l10), some (.inl l11), none, none]) (h : X_X12_drop_258 G Qx K30 K49 K198 l0 l3 l4 l5 l6 l7 l8 l9 l10 l11 k0 σ) : W p l e rm_X12_drop s m args below meth c H locs 0 0 (MQ below (va_Qi Qx (fun u t => Pw G D tc b0 u t) (AA b0)) args s 0 0 (AA b0)) (F0 m 258 ls [.int k0]) := by
  have hx := C.1
  have hb := C.2.1
  unfold X_X12_drop_258 at h
  refine x_istore C hl dX12_drop_258 (by decide) rfl (fun ls hl => ?_)
  refine lv_iconst (v := (0 : Int32)) hx hb dX12_drop_260 (by decide) ?_
  refine x_istore C hl dX12_drop_261 (by decide) rfl (fun ls hl => ?_)
  exact t_X12_drop_263 C hr hK30 hK49 hK198 hS hW (hl.keep [true, false, false, true, true, true, true, true, true, true, true, true, true, true] rfl) h
set_option maxRecDepth 20000 in
set_option maxHeartbeats 4000000 in
theorem t_X12_drop_326 {p : Program} {l : Launch} {e : Env} {s : State} {m : MethodId} {args : Array Value} {below : List Frame} {meth : Method} {c : Code} {H : Heap} {locs : List Loc} {D : va_G} {tc : Nat → ClassId} {b0 : Nat} {ls : Array Slot} {G : Lay} {Qx : Int32 → Mem → Prop} {l0 : Nat} {l3 : Int32} {l4 : Int32} {l5 : Int32} {l6 : Int32} {l7 : Int32}  {K30 : Int32 × Int32 × Mem → Prop} {K49 : Int32 × Int32 × Mem → Prop} {σ : Mem} (C : Cx p s m args meth c cX12_drop RX12 14 D tc b0) (hr : meth.sig.returnType = (some FieldType.int)) (hK30 : ∀ (x4 : Int32) (x5 : Int32) (σ : Mem) (H : Heap) (locs : List Loc) (ls : Array Slot), va_S (AA b0) s.heap H locs → Wd G D tc b0 σ H → hL b0 ls 14 [some (.inr (.inr l0)), none, none, some (.inl l3), some (.inl x4), some (.inl x5), none, none, none, none, none, none, none, none] → K30 (x4, x5, σ) → W p l e rm_X12_drop s m args below meth c H locs 0 0 (MQ below (va_Qi Qx (fun u t => Pw G D tc b0 u t) (AA b0)) args s 0 0 (AA b0)) (F0 m 30 ls [])) (hK49 : ∀ (x4 : Int32) (x7 : Int32) (σ : Mem) (H : Heap) (locs : List Loc) (ls : Array Slot), va_S (AA b0) s.heap H locs → Wd G D tc b0 σ H → hL b0 ls 14 [some (.inr (.inr l0)), none, none, some (.inl l3), some (.inl x4), some (.inl l5), some (.inl l6), some (.inl x7), none, none, none, none, none, none] → K49 (x4, x7, σ) → W p l e rm_X12_drop s m args below meth c H locs 0 0 (MQ below (va_Qi Qx (fun u t => Pw G D tc b0 u t) (AA b0)) args s 0 0 (AA b0)) (F0 m 49 ls [])) (hS : va_S (AA b0) s.heap H locs) (hW : Wd G D tc b0 σ H) (hl : hL b0 ls 14 [some (.inr (.inr l0)), none, none, some (.inl l3), some (.inl l4), some (.inl l5), some (.inl l6), some (.inl l7), none, none, none, none, none, none]) (h : X_X12_drop_326 G Qx K30 K49 l0 l3 l4 l5 l6 l7  σ) : W p l e rm_X12_drop s m args below meth c H locs 0 0 (MQ below (va_Qi Qx (fun u t => Pw G D tc b0 u t) (AA b0)) args s 0 0 (AA b0)) (F0 m 326 ls []) := by
  have hx := C.1
  have hb := C.2.1
  unfold X_X12_drop_326 at h
  refine x_iinc C hl dX12_drop_326 rfl (v := (1 : Int32)) (by decide) (by decide) rfl (fun ls hl => ?_)
  refine lv_goto hx hb dX12_drop_329 (tgt := 49) rfl ?_
  exact hK49 _ _ _ _ _ _ hS hW (hl.keep [true, false, false, true, true, true, true, true, false, false, false, false, false, false] rfl) h
set_option maxRecDepth 20000 in
set_option maxHeartbeats 4000000 in
theorem t_X12_drop_198_n {p : Program} {l : Launch} {e : Env} {s : State} {m : MethodId} {args : Array Value} {below : List Frame} {meth : Method} {c : Code} {D : va_G} {tc : Nat → ClassId} {b0 : Nat} {G : Lay} {Qx : Int32 → Mem → Prop} {l0 : Nat} {l3 : Int32} {l5 : Int32} {l6 : Int32} {l7 : Int32} {l8 : Int32} {l9 : Int32} {K30 : Int32 × Int32 × Mem → Prop} {K49 : Int32 × Int32 × Mem → Prop} (C : Cx p s m args meth c cX12_drop RX12 14 D tc b0) (hr : meth.sig.returnType = (some FieldType.int)) (hK30 : ∀ (x4 : Int32) (x5 : Int32) (σ : Mem) (H : Heap) (locs : List Loc) (ls : Array Slot), va_S (AA b0) s.heap H locs → Wd G D tc b0 σ H → hL b0 ls 14 [some (.inr (.inr l0)), none, none, some (.inl l3), some (.inl x4), some (.inl x5), none, none, none, none, none, none, none, none] → K30 (x4, x5, σ) → W p l e rm_X12_drop s m args below meth c H locs 0 0 (MQ below (va_Qi Qx (fun u t => Pw G D tc b0 u t) (AA b0)) args s 0 0 (AA b0)) (F0 m 30 ls [])) (hK49 : ∀ (x4 : Int32) (x7 : Int32) (σ : Mem) (H : Heap) (locs : List Loc) (ls : Array Slot), va_S (AA b0) s.heap H locs → Wd G D tc b0 σ H → hL b0 ls 14 [some (.inr (.inr l0)), none, none, some (.inl l3), some (.inl x4), some (.inl l5), some (.inl l6), some (.inl x7), none, none, none, none, none, none] → K49 (x4, x7, σ) → W p l e rm_X12_drop s m args below meth c H locs 0 0 (MQ below (va_Qi Qx (fun u t => Pw G D tc b0 u t) (AA b0)) args s 0 0 (AA b0)) (F0 m 49 ls [])) (n : Nat) : ∀ (l4 : Int32) (l10 : Int32) (σ : Mem) (H : Heap) (locs : List Loc) (ls : Array Slot), va_S (AA b0) s.heap H locs → Wd G D tc b0 σ H → hL b0 ls 14 [some (.inr (.inr l0)), none, none, some (.inl l3), some (.inl l4), some (.inl l5), some (.inl l6), some (.inl l7), some (.inl l8), some (.inl l9), some (.inl l10), none, none, none] → Lp (X_X12_drop_198_s G Qx K30 K49 l0 l3 l5 l6 l7 l8 l9) n (l4, l10, σ) → W p l e rm_X12_drop s m args below meth c H locs 0 0 (MQ below (va_Qi Qx (fun u t => Pw G D tc b0 u t) (AA b0)) args s 0 0 (AA b0)) (F0 m 198 ls []) := by
  have hx := C.1
  have hb := C.2.1
  induction n with
  | zero => intro l4 l10 σ H locs ls hS hW hl h; exact False.elim h
  | succ n hK198 =>
    intro l4 l10 σ H locs ls hS hW hl h
    replace h : X_X12_drop_198_s G Qx K30 K49 l0 l3 l5 l6 l7 l8 l9 (Lp (X_X12_drop_198_s G Qx K30 K49 l0 l3 l5 l6 l7 l8 l9) n) (l4, l10, σ) := h
    unfold X_X12_drop_198_s at h
    refine x_iload C hl dX12_drop_198 rfl ?_
    refine x_iload C hl dX12_drop_200 rfl ?_
    refine lv_icmp_ge hx hb dX12_drop_202 (tgt := 326) rfl (fun hc => ?_) (fun hc => ?_)
    · replace h := h.1 hc
      exact t_X12_drop_326 C hr hK30 hK49 hS hW (hl.keep [true, false, false, true, true, true, true, true, false, false, false, false, false, false] rfl) h
    · replace h := h.2 hc
      refine x_aload_n C hl dX12_drop_205 rfl ?_
      refine x_iload_n C hl dX12_drop_206 rfl ?_
      refine x_aload_n C hl dX12_drop_207 rfl ?_
      refine x_aload_n C hl dX12_drop_208 rfl ?_
      have t1 := h.1
      replace h := h.2
      refine x_get C hW (t := 12) (k := 10) t1 kl_12 (by decide) fl_X12_35 (v := rv b0 (mR σ l0 10)) rfl dX12_drop_209 ?_
      refine x_iload C hl dX12_drop_212 rfl ?_
      have t2 := h.1
      replace h := h.2
      have v3 := h.1
      replace h := h.2
      refine x_iald C hW t2 v3 dX12_drop_214 ?_
      refine y_i (x_run (As := [.int (mI σ (mR σ l0 10) l8.toNatClampNeg)]) C hW hS (T_X12_rootOf l l0 (mI σ (mR σ l0 10) l8.toNatClampNeg) σ _ h) t1 kl_12 (CW.of yv_X12_rootOf ml_X12_353) ⟨rfl, rfl, ⟨by decide, by decide⟩, by decide, by decide⟩ rfl hl.1 rfl (by simp [rv_cat, cat_i, cat_l]) dX12_drop_215) hS (fun w5 s4 H locs h hW hS => ?_)
      refine x_aload_n C hl dX12_drop_218 rfl ?_
      refine x_get C hW (t := 12) (k := 63) t1 kl_12 (by decide) fl_X12_154 (v := rv b0 (mR s4 l0 63)) rfl dX12_drop_219 ?_
      refine x_iload C hl dX12_drop_222 rfl ?_
      have t6 := h.1
      replace h := h.2
      have v7 := h.1
      replace h := h.2
      refine x_iald C hW t6 v7 dX12_drop_224 ?_
      refine y_i (x_run (As := [.int l3, .int w5, .int (mI s4 (mR s4 l0 63) l10.toNatClampNeg)]) C hW hS (T_X12_meet l l0 l3 w5 (mI s4 (mR s4 l0 63) l10.toNatClampNeg) s4 _ h) t1 kl_12 (CW.of yv_X12_meet ml_X12_406) ⟨rfl, rfl, ⟨by decide, by decide⟩, by decide, by decide⟩ rfl hl.1 rfl (by decide) dX12_drop_225) hS (fun w9 s8 H locs h hW hS => ?_)
      refine x_istore C hl dX12_drop_228 (by decide) rfl (fun ls hl => ?_)
      refine x_iload C hl dX12_drop_230 rfl ?_
      refine lv_if_ge hx hb dX12_drop_232 (tgt := 238) rfl (fun hc => ?_) (fun hc => ?_)
      · replace h := h.1 hc
        refine x_aload_n C hl dX12_drop_238 rfl ?_
        refine x_iload C hl dX12_drop_239 rfl ?_
        refine y_v (x_run (As := [.int w9]) C hW hS (T_X12_load l l0 w9 s8 _ h) t1 kl_12 (CW.of yv_X12_load ml_X12_396) ⟨rfl, rfl, ⟨by decide, by decide⟩, by decide, by decide⟩ rfl hl.1 rfl (by decide) dX12_drop_241) hS (fun s10 H locs h hW hS => ?_)
        refine x_aload_n C hl dX12_drop_244 rfl ?_
        refine x_iload C hl dX12_drop_245 rfl ?_
        refine y_i (x_run (As := [.int w9]) C hW hS (T_X12_isLive l l0 w9 s10 _ h) t1 kl_12 (CW.of yv_X12_isLive ml_X12_400) ⟨rfl, rfl, ⟨by decide, by decide⟩, by decide, by decide⟩ rfl hl.1 rfl (by decide) dX12_drop_247) hS (fun w12 s11 H locs h hW hS => ?_)
        refine lv_if_ne hx hb dX12_drop_250 (tgt := 257) rfl (fun hc => ?_) (fun hc => ?_)
        · replace h := h.2 hc
          refine lv_iconst (v := (0 : Int32)) hx hb dX12_drop_257 (by decide) ?_
          exact t_X12_drop_258 C hr hK30 hK49 hK198 hS hW (hl.keep [true, false, false, true, true, true, true, true, true, true, true, true, false, false] rfl) h
        · replace h := h.1 hc
          refine lv_iconst (v := (1 : Int32)) hx hb dX12_drop_253 (by decide) ?_
          refine lv_goto hx hb dX12_drop_254 (tgt := 258) rfl ?_
          exact t_X12_drop_258 C hr hK30 hK49 hK198 hS hW (hl.keep [true, false, false, true, true, true, true, true, true, true, true, true, false, false] rfl) h
      · replace h := h.2 hc
        refine lv_bipush (v := (-2 : Int32)) hx hb dX12_drop_235 (by decide) ?_
        exact r_i C hr hW hS h dX12_drop_237
set_option maxRecDepth 20000 in
set_option maxHeartbeats 4000000 in
theorem t_X12_drop_198 {p : Program} {l : Launch} {e : Env} {s : State} {m : MethodId} {args : Array Value} {below : List Frame} {meth : Method} {c : Code} {H : Heap} {locs : List Loc} {D : va_G} {tc : Nat → ClassId} {b0 : Nat} {ls : Array Slot} {G : Lay} {Qx : Int32 → Mem → Prop} {l0 : Nat} {l3 : Int32} {l4 : Int32} {l5 : Int32} {l6 : Int32} {l7 : Int32} {l8 : Int32} {l9 : Int32} {l10 : Int32}  {K30 : Int32 × Int32 × Mem → Prop} {K49 : Int32 × Int32 × Mem → Prop} {σ : Mem} (C : Cx p s m args meth c cX12_drop RX12 14 D tc b0) (hr : meth.sig.returnType = (some FieldType.int)) (hK30 : ∀ (x4 : Int32) (x5 : Int32) (σ : Mem) (H : Heap) (locs : List Loc) (ls : Array Slot), va_S (AA b0) s.heap H locs → Wd G D tc b0 σ H → hL b0 ls 14 [some (.inr (.inr l0)), none, none, some (.inl l3), some (.inl x4), some (.inl x5), none, none, none, none, none, none, none, none] → K30 (x4, x5, σ) → W p l e rm_X12_drop s m args below meth c H locs 0 0 (MQ below (va_Qi Qx (fun u t => Pw G D tc b0 u t) (AA b0)) args s 0 0 (AA b0)) (F0 m 30 ls [])) (hK49 : ∀ (x4 : Int32) (x7 : Int32) (σ : Mem) (H : Heap) (locs : List Loc) (ls : Array Slot), va_S (AA b0) s.heap H locs → Wd G D tc b0 σ H → hL b0 ls 14 [some (.inr (.inr l0)), none, none, some (.inl l3), some (.inl x4), some (.inl l5), some (.inl l6), some (.inl x7), none, none, none, none, none, none] → K49 (x4, x7, σ) → W p l e rm_X12_drop s m args below meth c H locs 0 0 (MQ below (va_Qi Qx (fun u t => Pw G D tc b0 u t) (AA b0)) args s 0 0 (AA b0)) (F0 m 49 ls [])) (hS : va_S (AA b0) s.heap H locs) (hW : Wd G D tc b0 σ H) (hl : hL b0 ls 14 [some (.inr (.inr l0)), none, none, some (.inl l3), some (.inl l4), some (.inl l5), some (.inl l6), some (.inl l7), some (.inl l8), some (.inl l9), some (.inl l10), none, none, none]) (h : X_X12_drop_198 G Qx K30 K49 l0 l3 l4 l5 l6 l7 l8 l9 l10 σ) : W p l e rm_X12_drop s m args below meth c H locs 0 0 (MQ below (va_Qi Qx (fun u t => Pw G D tc b0 u t) (AA b0)) args s 0 0 (AA b0)) (F0 m 198 ls []) := by
  obtain ⟨n, h⟩ := h
  exact t_X12_drop_198_n C hr hK30 hK49 n l4 l10 σ H locs ls hS hW hl h
set_option maxRecDepth 20000 in
set_option maxHeartbeats 4000000 in
theorem t_X12_drop_195 {p : Program} {l : Launch} {e : Env} {s : State} {m : MethodId} {args : Array Value} {below : List Frame} {meth : Method} {c : Code} {H : Heap} {locs : List Loc} {D : va_G} {tc : Nat → ClassId} {b0 : Nat} {ls : Array Slot} {G : Lay} {Qx : Int32 → Mem → Prop} {l0 : Nat} {l3 : Int32} {l4 : Int32} {l5 : Int32} {l6 : Int32} {l7 : Int32} {l8 : Int32} {l9 : Int32}  {K30 : Int32 × Int32 × Mem → Prop} {K49 : Int32 × Int32 × Mem → Prop} {σ : Mem} (C : Cx p s m args meth c cX12_drop RX12 14 D tc b0) (hr : meth.sig.returnType = (some FieldType.int)) (hK30 : ∀ (x4 : Int32) (x5 : Int32) (σ : Mem) (H : Heap) (locs : List Loc) (ls : Array Slot), va_S (AA b0) s.heap H locs → Wd G D tc b0 σ H → hL b0 ls 14 [some (.inr (.inr l0)), none, none, some (.inl l3), some (.inl x4), some (.inl x5), none, none, none, none, none, none, none, none] → K30 (x4, x5, σ) → W p l e rm_X12_drop s m args below meth c H locs 0 0 (MQ below (va_Qi Qx (fun u t => Pw G D tc b0 u t) (AA b0)) args s 0 0 (AA b0)) (F0 m 30 ls [])) (hK49 : ∀ (x4 : Int32) (x7 : Int32) (σ : Mem) (H : Heap) (locs : List Loc) (ls : Array Slot), va_S (AA b0) s.heap H locs → Wd G D tc b0 σ H → hL b0 ls 14 [some (.inr (.inr l0)), none, none, some (.inl l3), some (.inl x4), some (.inl l5), some (.inl l6), some (.inl x7), none, none, none, none, none, none] → K49 (x4, x7, σ) → W p l e rm_X12_drop s m args below meth c H locs 0 0 (MQ below (va_Qi Qx (fun u t => Pw G D tc b0 u t) (AA b0)) args s 0 0 (AA b0)) (F0 m 49 ls [])) (hS : va_S (AA b0) s.heap H locs) (hW : Wd G D tc b0 σ H) (hl : hL b0 ls 14 [some (.inr (.inr l0)), none, none, some (.inl l3), some (.inl l4), some (.inl l5), some (.inl l6), some (.inl l7), some (.inl l8), some (.inl l9), none, none, none, none]) (h : X_X12_drop_195 G Qx K30 K49 l0 l3 l4 l5 l6 l7 l8 l9  σ) : W p l e rm_X12_drop s m args below meth c H locs 0 0 (MQ below (va_Qi Qx (fun u t => Pw G D tc b0 u t) (AA b0)) args s 0 0 (AA b0)) (F0 m 195 ls []) := by
  have hx := C.1
  have hb := C.2.1
  unfold X_X12_drop_195 at h
  refine lv_iconst (v := (0 : Int32)) hx hb dX12_drop_195 (by decide) ?_
  refine x_istore C hl dX12_drop_196 (by decide) rfl (fun ls hl => ?_)
  exact t_X12_drop_198 C hr hK30 hK49 hS hW (hl.keep [true, false, false, true, true, true, true, true, true, true, true, false, false, false] rfl) h
set_option maxRecDepth 20000 in
set_option maxHeartbeats 4000000 in
theorem t_X12_drop_143 {p : Program} {l : Launch} {e : Env} {s : State} {m : MethodId} {args : Array Value} {below : List Frame} {meth : Method} {c : Code} {H : Heap} {locs : List Loc} {D : va_G} {tc : Nat → ClassId} {b0 : Nat} {ls : Array Slot} {G : Lay} {Qx : Int32 → Mem → Prop} {l0 : Nat} {l3 : Int32} {l4 : Int32} {l5 : Int32} {l6 : Int32} {l7 : Int32} {l8 : Int32} {k0 : Int32} {K30 : Int32 × Int32 × Mem → Prop} {K49 : Int32 × Int32 × Mem → Prop} {σ : Mem} (C : Cx p s m args meth c cX12_drop RX12 14 D tc b0) (hr : meth.sig.returnType = (some FieldType.int)) (hK30 : ∀ (x4 : Int32) (x5 : Int32) (σ : Mem) (H : Heap) (locs : List Loc) (ls : Array Slot), va_S (AA b0) s.heap H locs → Wd G D tc b0 σ H → hL b0 ls 14 [some (.inr (.inr l0)), none, none, some (.inl l3), some (.inl x4), some (.inl x5), none, none, none, none, none, none, none, none] → K30 (x4, x5, σ) → W p l e rm_X12_drop s m args below meth c H locs 0 0 (MQ below (va_Qi Qx (fun u t => Pw G D tc b0 u t) (AA b0)) args s 0 0 (AA b0)) (F0 m 30 ls [])) (hK49 : ∀ (x4 : Int32) (x7 : Int32) (σ : Mem) (H : Heap) (locs : List Loc) (ls : Array Slot), va_S (AA b0) s.heap H locs → Wd G D tc b0 σ H → hL b0 ls 14 [some (.inr (.inr l0)), none, none, some (.inl l3), some (.inl x4), some (.inl l5), some (.inl l6), some (.inl x7), none, none, none, none, none, none] → K49 (x4, x7, σ) → W p l e rm_X12_drop s m args below meth c H locs 0 0 (MQ below (va_Qi Qx (fun u t => Pw G D tc b0 u t) (AA b0)) args s 0 0 (AA b0)) (F0 m 49 ls [])) (hS : va_S (AA b0) s.heap H locs) (hW : Wd G D tc b0 σ H) (hl : hL b0 ls 14 [some (.inr (.inr l0)), none, none, some (.inl l3), some (.inl l4), some (.inl l5), some (.inl l6), some (.inl l7), some (.inl l8), none, none, none, none, none]) (h : X_X12_drop_143 G Qx K30 K49 l0 l3 l4 l5 l6 l7 l8 k0 σ) : W p l e rm_X12_drop s m args below meth c H locs 0 0 (MQ below (va_Qi Qx (fun u t => Pw G D tc b0 u t) (AA b0)) args s 0 0 (AA b0)) (F0 m 143 ls [.int k0]) := by
  have hx := C.1
  have hb := C.2.1
  unfold X_X12_drop_143 at h
  refine x_istore C hl dX12_drop_143 (by decide) rfl (fun ls hl => ?_)
  refine lv_goto hx hb dX12_drop_145 (tgt := 195) rfl ?_
  exact t_X12_drop_195 C hr hK30 hK49 hS hW (hl.keep [true, false, false, true, true, true, true, true, true, true, false, false, false, false] rfl) h
set_option maxRecDepth 20000 in
set_option maxHeartbeats 4000000 in
theorem t_X12_drop_168_n {p : Program} {l : Launch} {e : Env} {s : State} {m : MethodId} {args : Array Value} {below : List Frame} {meth : Method} {c : Code} {D : va_G} {tc : Nat → ClassId} {b0 : Nat} {G : Lay} {Qx : Int32 → Mem → Prop} {l0 : Nat} {l3 : Int32} {l4 : Int32} {l5 : Int32} {l6 : Int32} {l7 : Int32} {l8 : Int32} {l9 : Int32} {K30 : Int32 × Int32 × Mem → Prop} {K49 : Int32 × Int32 × Mem → Prop} (C : Cx p s m args meth c cX12_drop RX12 14 D tc b0) (hr : meth.sig.returnType = (some FieldType.int)) (hK30 : ∀ (x4 : Int32) (x5 : Int32) (σ : Mem) (H : Heap) (locs : List Loc) (ls : Array Slot), va_S (AA b0) s.heap H locs → Wd G D tc b0 σ H → hL b0 ls 14 [some (.inr (.inr l0)), none, none, some (.inl l3), some (.inl x4), some (.inl x5), none, none, none, none, none, none, none, none] → K30 (x4, x5, σ) → W p l e rm_X12_drop s m args below meth c H locs 0 0 (MQ below (va_Qi Qx (fun u t => Pw G D tc b0 u t) (AA b0)) args s 0 0 (AA b0)) (F0 m 30 ls [])) (hK49 : ∀ (x4 : Int32) (x7 : Int32) (σ : Mem) (H : Heap) (locs : List Loc) (ls : Array Slot), va_S (AA b0) s.heap H locs → Wd G D tc b0 σ H → hL b0 ls 14 [some (.inr (.inr l0)), none, none, some (.inl l3), some (.inl x4), some (.inl l5), some (.inl l6), some (.inl x7), none, none, none, none, none, none] → K49 (x4, x7, σ) → W p l e rm_X12_drop s m args below meth c H locs 0 0 (MQ below (va_Qi Qx (fun u t => Pw G D tc b0 u t) (AA b0)) args s 0 0 (AA b0)) (F0 m 49 ls [])) (n : Nat) : ∀ (l10 : Int32) (σ : Mem) (H : Heap) (locs : List Loc) (ls : Array Slot), va_S (AA b0) s.heap H locs → Wd G D tc b0 σ H → hL b0 ls 14 [some (.inr (.inr l0)), none, none, some (.inl l3), some (.inl l4), some (.inl l5), some (.inl l6), some (.inl l7), some (.inl l8), some (.inl l9), some (.inl l10), none, none, none] → Lp (X_X12_drop_168_s G Qx K30 K49 l0 l3 l4 l5 l6 l7 l8 l9) n (l10, σ) → W p l e rm_X12_drop s m args below meth c H locs 0 0 (MQ below (va_Qi Qx (fun u t => Pw G D tc b0 u t) (AA b0)) args s 0 0 (AA b0)) (F0 m 168 ls []) := by
  have hx := C.1
  have hb := C.2.1
  induction n with
  | zero => intro l10 σ H locs ls hS hW hl h; exact False.elim h
  | succ n hK168 =>
    intro l10 σ H locs ls hS hW hl h
    replace h : X_X12_drop_168_s G Qx K30 K49 l0 l3 l4 l5 l6 l7 l8 l9 (Lp (X_X12_drop_168_s G Qx K30 K49 l0 l3 l4 l5 l6 l7 l8 l9) n) (l10, σ) := h
    unfold X_X12_drop_168_s at h
    refine x_iload C hl dX12_drop_168 rfl ?_
    refine x_iload C hl dX12_drop_170 rfl ?_
    refine lv_icmp_ge hx hb dX12_drop_172 (tgt := 195) rfl (fun hc => ?_) (fun hc => ?_)
    · replace h := h.1 hc
      exact t_X12_drop_195 C hr hK30 hK49 hS hW (hl.keep [true, false, false, true, true, true, true, true, true, true, false, false, false, false] rfl) h
    · replace h := h.2 hc
      refine x_aload_n C hl dX12_drop_175 rfl ?_
      have t1 := h.1
      replace h := h.2
      refine x_get C hW (t := 12) (k := 63) t1 kl_12 (by decide) fl_X12_154 (v := rv b0 (mR σ l0 63)) rfl dX12_drop_176 ?_
      refine x_iload C hl dX12_drop_179 rfl ?_
      refine x_aload_n C hl dX12_drop_181 rfl ?_
      refine x_get C hW (t := 12) (k := 61) t1 kl_12 (by decide) fl_X12_148 (v := rv b0 (mR σ l0 61)) rfl dX12_drop_182 ?_
      refine x_iload C hl dX12_drop_185 rfl ?_
      have t2 := h.1
      replace h := h.2
      have v3 := h.1
      replace h := h.2
      refine x_iald C hW t2 v3 dX12_drop_187 ?_
      have t4 := h.1
      replace h := h.2
      have v5 := h.1
      replace h := h.2
      refine x_iast C hW hS t4 v5 dX12_drop_188 (fun H locs hW hS => ?_)
      obtain ⟨s6, e_s6⟩ : ∃ z : Mem, z = (sI σ (mR σ l0 63) l10.toNatClampNeg (mI σ (mR σ l0 61) l10.toNatClampNeg)) := ⟨_, rfl⟩
      replace h := h s6 e_s6
      replace hW : Wd G D tc b0 s6 H := by rw [e_s6]; exact hW
      refine x_iinc C hl dX12_drop_189 rfl (v := (1 : Int32)) (by decide) (by decide) rfl (fun ls hl => ?_)
      refine lv_goto hx hb dX12_drop_192 (tgt := 168) rfl ?_
      exact hK168 _ _ _ _ _ hS hW (hl.keep [true, false, false, true, true, true, true, true, true, true, true, false, false, false] rfl) h
set_option maxRecDepth 20000 in
set_option maxHeartbeats 4000000 in
theorem t_X12_drop_168 {p : Program} {l : Launch} {e : Env} {s : State} {m : MethodId} {args : Array Value} {below : List Frame} {meth : Method} {c : Code} {H : Heap} {locs : List Loc} {D : va_G} {tc : Nat → ClassId} {b0 : Nat} {ls : Array Slot} {G : Lay} {Qx : Int32 → Mem → Prop} {l0 : Nat} {l3 : Int32} {l4 : Int32} {l5 : Int32} {l6 : Int32} {l7 : Int32} {l8 : Int32} {l9 : Int32} {l10 : Int32}  {K30 : Int32 × Int32 × Mem → Prop} {K49 : Int32 × Int32 × Mem → Prop} {σ : Mem} (C : Cx p s m args meth c cX12_drop RX12 14 D tc b0) (hr : meth.sig.returnType = (some FieldType.int)) (hK30 : ∀ (x4 : Int32) (x5 : Int32) (σ : Mem) (H : Heap) (locs : List Loc) (ls : Array Slot), va_S (AA b0) s.heap H locs → Wd G D tc b0 σ H → hL b0 ls 14 [some (.inr (.inr l0)), none, none, some (.inl l3), some (.inl x4), some (.inl x5), none, none, none, none, none, none, none, none] → K30 (x4, x5, σ) → W p l e rm_X12_drop s m args below meth c H locs 0 0 (MQ below (va_Qi Qx (fun u t => Pw G D tc b0 u t) (AA b0)) args s 0 0 (AA b0)) (F0 m 30 ls [])) (hK49 : ∀ (x4 : Int32) (x7 : Int32) (σ : Mem) (H : Heap) (locs : List Loc) (ls : Array Slot), va_S (AA b0) s.heap H locs → Wd G D tc b0 σ H → hL b0 ls 14 [some (.inr (.inr l0)), none, none, some (.inl l3), some (.inl x4), some (.inl l5), some (.inl l6), some (.inl x7), none, none, none, none, none, none] → K49 (x4, x7, σ) → W p l e rm_X12_drop s m args below meth c H locs 0 0 (MQ below (va_Qi Qx (fun u t => Pw G D tc b0 u t) (AA b0)) args s 0 0 (AA b0)) (F0 m 49 ls [])) (hS : va_S (AA b0) s.heap H locs) (hW : Wd G D tc b0 σ H) (hl : hL b0 ls 14 [some (.inr (.inr l0)), none, none, some (.inl l3), some (.inl l4), some (.inl l5), some (.inl l6), some (.inl l7), some (.inl l8), some (.inl l9), some (.inl l10), none, none, none]) (h : X_X12_drop_168 G Qx K30 K49 l0 l3 l4 l5 l6 l7 l8 l9 l10 σ) : W p l e rm_X12_drop s m args below meth c H locs 0 0 (MQ below (va_Qi Qx (fun u t => Pw G D tc b0 u t) (AA b0)) args s 0 0 (AA b0)) (F0 m 168 ls []) := by
  obtain ⟨n, h⟩ := h
  exact t_X12_drop_168_n C hr hK30 hK49 n l10 σ H locs ls hS hW hl h
set_option maxRecDepth 20000 in
set_option maxHeartbeats 4000000 in
theorem t_X12_drop_49_n {p : Program} {l : Launch} {e : Env} {s : State} {m : MethodId} {args : Array Value} {below : List Frame} {meth : Method} {c : Code} {D : va_G} {tc : Nat → ClassId} {b0 : Nat} {G : Lay} {Qx : Int32 → Mem → Prop} {l0 : Nat} {l3 : Int32} {l5 : Int32} {l6 : Int32} {K30 : Int32 × Int32 × Mem → Prop} (C : Cx p s m args meth c cX12_drop RX12 14 D tc b0) (hr : meth.sig.returnType = (some FieldType.int)) (hK30 : ∀ (x4 : Int32) (x5 : Int32) (σ : Mem) (H : Heap) (locs : List Loc) (ls : Array Slot), va_S (AA b0) s.heap H locs → Wd G D tc b0 σ H → hL b0 ls 14 [some (.inr (.inr l0)), none, none, some (.inl l3), some (.inl x4), some (.inl x5), none, none, none, none, none, none, none, none] → K30 (x4, x5, σ) → W p l e rm_X12_drop s m args below meth c H locs 0 0 (MQ below (va_Qi Qx (fun u t => Pw G D tc b0 u t) (AA b0)) args s 0 0 (AA b0)) (F0 m 30 ls [])) (n : Nat) : ∀ (l4 : Int32) (l7 : Int32) (σ : Mem) (H : Heap) (locs : List Loc) (ls : Array Slot), va_S (AA b0) s.heap H locs → Wd G D tc b0 σ H → hL b0 ls 14 [some (.inr (.inr l0)), none, none, some (.inl l3), some (.inl l4), some (.inl l5), some (.inl l6), some (.inl l7), none, none, none, none, none, none] → Lp (X_X12_drop_49_s G Qx K30 l0 l3 l5 l6) n (l4, l7, σ) → W p l e rm_X12_drop s m args below meth c H locs 0 0 (MQ below (va_Qi Qx (fun u t => Pw G D tc b0 u t) (AA b0)) args s 0 0 (AA b0)) (F0 m 49 ls []) := by
  have hx := C.1
  have hb := C.2.1
  induction n with
  | zero => intro l4 l7 σ H locs ls hS hW hl h; exact False.elim h
  | succ n hK49 =>
    intro l4 l7 σ H locs ls hS hW hl h
    replace h : X_X12_drop_49_s G Qx K30 l0 l3 l5 l6 (Lp (X_X12_drop_49_s G Qx K30 l0 l3 l5 l6) n) (l4, l7, σ) := h
    unfold X_X12_drop_49_s at h
    refine x_iload C hl dX12_drop_49 rfl ?_
    refine x_aload_n C hl dX12_drop_51 rfl ?_
    have t1 := h.1
    replace h := h.2
    refine x_get C hW (t := 12) (k := 6) t1 kl_12 (by decide) fl_X12_23 (v := rv b0 (mR σ l0 6)) rfl dX12_drop_52 ?_
    refine x_aload_n C hl dX12_drop_55 rfl ?_
    refine x_get C hW (t := 12) (k := 45) t1 kl_12 (by decide) fl_X12_129 (v := rv b0 (mR σ l0 45)) rfl dX12_drop_56 ?_
    refine x_iload C hl dX12_drop_59 rfl ?_
    have t2 := h.1
    replace h := h.2
    have v3 := h.1
    replace h := h.2
    refine x_iald C hW t2 v3 dX12_drop_61 ?_
    have t4 := h.1
    replace h := h.2
    have v5 := h.1
    replace h := h.2
    refine x_iald C hW t4 v5 dX12_drop_62 ?_
    refine lv_icmp_ge hx hb dX12_drop_63 (tgt := 332) rfl (fun hc => ?_) (fun hc => ?_)
    · replace h := h.1 hc
      refine x_iinc C hl dX12_drop_332 rfl (v := (1 : Int32)) (by decide) (by decide) rfl (fun ls hl => ?_)
      refine lv_goto hx hb dX12_drop_335 (tgt := 30) rfl ?_
      exact hK30 _ _ _ _ _ _ hS hW (hl.keep [true, false, false, true, true, true, false, false, false, false, false, false, false, false] rfl) h
    · replace h := h.2 hc
      refine lv_bipush (v := (16 : Int32)) hx hb dX12_drop_66 (by decide) ?_
      refine x_aload_n C hl dX12_drop_68 rfl ?_
      refine x_get C hW (t := 12) (k := 45) t1 kl_12 (by decide) fl_X12_129 (v := rv b0 (mR σ l0 45)) rfl dX12_drop_69 ?_
      refine x_iload C hl dX12_drop_72 rfl ?_
      refine x_iald C hW t2 v3 dX12_drop_74 ?_
      refine lv_imul hx hb dX12_drop_75 ?_
      refine x_iload C hl dX12_drop_76 rfl ?_
      refine lv_iadd hx hb dX12_drop_78 ?_
      refine x_istore C hl dX12_drop_79 (by decide) rfl (fun ls hl => ?_)
      refine x_aload_n C hl dX12_drop_81 rfl ?_
      refine x_get C hW (t := 12) (k := 13) t1 kl_12 (by decide) fl_X12_44 (v := rv b0 (mR σ l0 13)) rfl dX12_drop_82 ?_
      refine x_iload C hl dX12_drop_85 rfl ?_
      have t6 := h.1
      replace h := h.2
      have v7 := h.1
      replace h := h.2
      refine x_iald C hW t6 v7 dX12_drop_87 ?_
      refine lv_iconst (v := (4 : Int32)) hx hb dX12_drop_88 (by decide) ?_
      refine lv_iand hx hb dX12_drop_89 ?_
      refine lv_if_ne hx hb dX12_drop_90 (tgt := 96) rfl (fun hc => ?_) (fun hc => ?_)
      · replace h := h.2 hc
        refine lv_iconst (v := (0 : Int32)) hx hb dX12_drop_96 (by decide) ?_
        refine x_istore C hl dX12_drop_97 (by decide) rfl (fun ls hl => ?_)
        refine x_aload_n C hl dX12_drop_99 rfl ?_
        refine x_get C hW (t := 12) (k := 9) t1 kl_12 (by decide) fl_X12_32 (v := rv b0 (mR σ l0 9)) rfl dX12_drop_100 ?_
        refine x_iload C hl dX12_drop_103 rfl ?_
        have t8 := h.1
        replace h := h.2
        have v9 := h.1
        replace h := h.2
        refine x_iald C hW t8 v9 dX12_drop_105 ?_
        refine lv_iconst (v := (4 : Int32)) hx hb dX12_drop_106 (by decide) ?_
        refine lv_icmp_ne hx hb dX12_drop_107 (tgt := 148) rfl (fun hc => ?_) (fun hc => ?_)
        · replace h := h.2 hc
          refine x_aload_n C hl dX12_drop_148 rfl ?_
          refine x_iload C hl dX12_drop_149 rfl ?_
          refine x_iload C hl dX12_drop_151 rfl ?_
          refine y_i (x_run (As := [.int l6, .int l7]) C hW hS (T_X12_isList l l0 l6 l7 σ _ h) t1 kl_12 (CW.of yv_X12_isList ml_X12_427) ⟨rfl, rfl, ⟨by decide, by decide⟩, by decide, by decide⟩ rfl hl.1 rfl (by decide) dX12_drop_153) hS (fun w11 s10 H locs h hW hS => ?_)
          refine lv_if_eq hx hb dX12_drop_156 (tgt := 195) rfl (fun hc => ?_) (fun hc => ?_)
          · replace h := h.1 hc
            exact t_X12_drop_195 C hr hK30 hK49 hS hW (hl.keep [true, false, false, true, true, true, true, true, true, true, false, false, false, false] rfl) h
          · replace h := h.2 hc
            refine x_aload_n C hl dX12_drop_159 rfl ?_
            refine x_get C hW (t := 12) (k := 60) t1 kl_12 (by decide) fl_X12_421 (v := .int (mI s10 l0 60)) rfl dX12_drop_160 ?_
            refine x_istore C hl dX12_drop_163 (by decide) rfl (fun ls hl => ?_)
            refine lv_iconst (v := (0 : Int32)) hx hb dX12_drop_165 (by decide) ?_
            refine x_istore C hl dX12_drop_166 (by decide) rfl (fun ls hl => ?_)
            exact t_X12_drop_168 C hr hK30 hK49 hS hW (hl.keep [true, false, false, true, true, true, true, true, true, true, true, false, false, false] rfl) h
        · replace h := h.1 hc
          refine x_aload_n C hl dX12_drop_110 rfl ?_
          refine x_get C hW (t := 12) (k := 63) t1 kl_12 (by decide) fl_X12_154 (v := rv b0 (mR σ l0 63)) rfl dX12_drop_111 ?_
          refine lv_iconst (v := (0 : Int32)) hx hb dX12_drop_114 (by decide) ?_
          refine x_aload_n C hl dX12_drop_115 rfl ?_
          refine x_get C hW (t := 12) (k := 47) t1 kl_12 (by decide) fl_X12_135 (v := rv b0 (mR σ l0 47)) rfl dX12_drop_116 ?_
          refine lv_bipush (v := (16 : Int32)) hx hb dX12_drop_119 (by decide) ?_
          refine x_iload C hl dX12_drop_121 rfl ?_
          refine lv_imul hx hb dX12_drop_123 ?_
          refine x_iload C hl dX12_drop_124 rfl ?_
          refine lv_iadd hx hb dX12_drop_126 ?_
          have t12 := h.1
          replace h := h.2
          have v13 := h.1
          replace h := h.2
          refine x_iald C hW t12 v13 dX12_drop_127 ?_
          have t14 := h.1
          replace h := h.2
          have v15 := h.1
          replace h := h.2
          refine x_iast C hW hS t14 v15 dX12_drop_128 (fun H locs hW hS => ?_)
          obtain ⟨s16, e_s16⟩ : ∃ z : Mem, z = (sI σ (mR σ l0 63) (0 : Int32).toNatClampNeg (mI σ (mR σ l0 47) (((16 : Int32) * l6) + l7).toNatClampNeg)) := ⟨_, rfl⟩
          replace h := h s16 e_s16
          replace hW : Wd G D tc b0 s16 H := by rw [e_s16]; exact hW
          refine x_aload_n C hl dX12_drop_129 rfl ?_
          refine x_get C hW (t := 12) (k := 63) t1 kl_12 (by decide) fl_X12_154 (v := rv b0 (mR s16 l0 63)) rfl dX12_drop_130 ?_
          refine lv_iconst (v := (0 : Int32)) hx hb dX12_drop_133 (by decide) ?_
          have t17 := h.1
          replace h := h.2
          have v18 := h.1
          replace h := h.2
          refine x_iald C hW t17 v18 dX12_drop_134 ?_
          refine lv_if_ne hx hb dX12_drop_135 (tgt := 142) rfl (fun hc => ?_) (fun hc => ?_)
          · replace h := h.2 hc
            refine lv_iconst (v := (1 : Int32)) hx hb dX12_drop_142 (by decide) ?_
            exact t_X12_drop_143 C hr hK30 hK49 hS hW (hl.keep [true, false, false, true, true, true, true, true, true, false, false, false, false, false] rfl) h
          · replace h := h.1 hc
            refine lv_iconst (v := (0 : Int32)) hx hb dX12_drop_138 (by decide) ?_
            refine lv_goto hx hb dX12_drop_139 (tgt := 143) rfl ?_
            exact t_X12_drop_143 C hr hK30 hK49 hS hW (hl.keep [true, false, false, true, true, true, true, true, true, false, false, false, false, false] rfl) h
      · replace h := h.1 hc
        refine lv_goto hx hb dX12_drop_93 (tgt := 326) rfl ?_
        exact t_X12_drop_326 C hr hK30 hK49 hS hW (hl.keep [true, false, false, true, true, true, true, true, false, false, false, false, false, false] rfl) h
set_option maxRecDepth 20000 in
set_option maxHeartbeats 4000000 in
theorem t_X12_drop_49 {p : Program} {l : Launch} {e : Env} {s : State} {m : MethodId} {args : Array Value} {below : List Frame} {meth : Method} {c : Code} {H : Heap} {locs : List Loc} {D : va_G} {tc : Nat → ClassId} {b0 : Nat} {ls : Array Slot} {G : Lay} {Qx : Int32 → Mem → Prop} {l0 : Nat} {l3 : Int32} {l4 : Int32} {l5 : Int32} {l6 : Int32} {l7 : Int32}  {K30 : Int32 × Int32 × Mem → Prop} {σ : Mem} (C : Cx p s m args meth c cX12_drop RX12 14 D tc b0) (hr : meth.sig.returnType = (some FieldType.int)) (hK30 : ∀ (x4 : Int32) (x5 : Int32) (σ : Mem) (H : Heap) (locs : List Loc) (ls : Array Slot), va_S (AA b0) s.heap H locs → Wd G D tc b0 σ H → hL b0 ls 14 [some (.inr (.inr l0)), none, none, some (.inl l3), some (.inl x4), some (.inl x5), none, none, none, none, none, none, none, none] → K30 (x4, x5, σ) → W p l e rm_X12_drop s m args below meth c H locs 0 0 (MQ below (va_Qi Qx (fun u t => Pw G D tc b0 u t) (AA b0)) args s 0 0 (AA b0)) (F0 m 30 ls [])) (hS : va_S (AA b0) s.heap H locs) (hW : Wd G D tc b0 σ H) (hl : hL b0 ls 14 [some (.inr (.inr l0)), none, none, some (.inl l3), some (.inl l4), some (.inl l5), some (.inl l6), some (.inl l7), none, none, none, none, none, none]) (h : X_X12_drop_49 G Qx K30 l0 l3 l4 l5 l6 l7 σ) : W p l e rm_X12_drop s m args below meth c H locs 0 0 (MQ below (va_Qi Qx (fun u t => Pw G D tc b0 u t) (AA b0)) args s 0 0 (AA b0)) (F0 m 49 ls []) := by
  obtain ⟨n, h⟩ := h
  exact t_X12_drop_49_n C hr hK30 n l4 l7 σ H locs ls hS hW hl h
set_option maxRecDepth 20000 in
set_option maxHeartbeats 4000000 in
theorem t_X12_drop_380 {p : Program} {l : Launch} {e : Env} {s : State} {m : MethodId} {args : Array Value} {below : List Frame} {meth : Method} {c : Code} {H : Heap} {locs : List Loc} {D : va_G} {tc : Nat → ClassId} {b0 : Nat} {ls : Array Slot} {G : Lay} {Qx : Int32 → Mem → Prop} {l0 : Nat} {l4 : Int32} {l5 : Int32} {k0 : Nat} {k1 : Int32} {k2 : Int32} {K341 : Int32 × Mem → Prop} {σ : Mem} (C : Cx p s m args meth c cX12_drop RX12 14 D tc b0) (hr : meth.sig.returnType = (some FieldType.int)) (hK341 : ∀ (x5 : Int32) (σ : Mem) (H : Heap) (locs : List Loc) (ls : Array Slot), va_S (AA b0) s.heap H locs → Wd G D tc b0 σ H → hL b0 ls 14 [some (.inr (.inr l0)), none, none, none, some (.inl l4), some (.inl x5), none, none, none, none, none, none, none, none] → K341 (x5, σ) → W p l e rm_X12_drop s m args below meth c H locs 0 0 (MQ below (va_Qi Qx (fun u t => Pw G D tc b0 u t) (AA b0)) args s 0 0 (AA b0)) (F0 m 341 ls [])) (hS : va_S (AA b0) s.heap H locs) (hW : Wd G D tc b0 σ H) (hl : hL b0 ls 14 [some (.inr (.inr l0)), none, none, none, some (.inl l4), some (.inl l5), none, none, none, none, none, none, none, none]) (h : X_X12_drop_380 G Qx K341 l0 l4 l5 k0 k1 k2 σ) : W p l e rm_X12_drop s m args below meth c H locs 0 0 (MQ below (va_Qi Qx (fun u t => Pw G D tc b0 u t) (AA b0)) args s 0 0 (AA b0)) (F0 m 380 ls [.int k2, .int k1, rv b0 k0]) := by
  have hx := C.1
  have hb := C.2.1
  unfold X_X12_drop_380 at h
  have t1 := h.1
  replace h := h.2
  have v2 := h.1
  replace h := h.2
  refine x_iast C hW hS t1 v2 dX12_drop_380 (fun H locs hW hS => ?_)
  obtain ⟨s3, e_s3⟩ : ∃ z : Mem, z = (sI σ k0 k1.toNatClampNeg k2) := ⟨_, rfl⟩
  replace h := h s3 e_s3
  replace hW : Wd G D tc b0 s3 H := by rw [e_s3]; exact hW
  refine x_iinc C hl dX12_drop_381 rfl (v := (1 : Int32)) (by decide) (by decide) rfl (fun ls hl => ?_)
  refine lv_goto hx hb dX12_drop_384 (tgt := 341) rfl ?_
  exact hK341 _ _ _ _ _ hS hW (hl.keep [true, false, false, false, true, true, false, false, false, false, false, false, false, false] rfl) h
set_option maxRecDepth 20000 in
set_option maxHeartbeats 4000000 in
theorem t_X12_drop_341_n {p : Program} {l : Launch} {e : Env} {s : State} {m : MethodId} {args : Array Value} {below : List Frame} {meth : Method} {c : Code} {D : va_G} {tc : Nat → ClassId} {b0 : Nat} {G : Lay} {Qx : Int32 → Mem → Prop} {l0 : Nat} {l4 : Int32} (C : Cx p s m args meth c cX12_drop RX12 14 D tc b0) (hr : meth.sig.returnType = (some FieldType.int)) (n : Nat) : ∀ (l5 : Int32) (σ : Mem) (H : Heap) (locs : List Loc) (ls : Array Slot), va_S (AA b0) s.heap H locs → Wd G D tc b0 σ H → hL b0 ls 14 [some (.inr (.inr l0)), none, none, none, some (.inl l4), some (.inl l5), none, none, none, none, none, none, none, none] → Lp (X_X12_drop_341_s G Qx l0 l4) n (l5, σ) → W p l e rm_X12_drop s m args below meth c H locs 0 0 (MQ below (va_Qi Qx (fun u t => Pw G D tc b0 u t) (AA b0)) args s 0 0 (AA b0)) (F0 m 341 ls []) := by
  have hx := C.1
  have hb := C.2.1
  induction n with
  | zero => intro l5 σ H locs ls hS hW hl h; exact False.elim h
  | succ n hK341 =>
    intro l5 σ H locs ls hS hW hl h
    replace h : X_X12_drop_341_s G Qx l0 l4 (Lp (X_X12_drop_341_s G Qx l0 l4) n) (l5, σ) := h
    unfold X_X12_drop_341_s at h
    refine x_iload C hl dX12_drop_341 rfl ?_
    refine x_iload C hl dX12_drop_343 rfl ?_
    refine lv_icmp_ge hx hb dX12_drop_345 (tgt := 387) rfl (fun hc => ?_) (fun hc => ?_)
    · replace h := h.1 hc
      refine x_iload C hl dX12_drop_387 rfl ?_
      exact r_i C hr hW hS h dX12_drop_389
    · replace h := h.2 hc
      refine x_aload_n C hl dX12_drop_348 rfl ?_
      have t1 := h.1
      replace h := h.2
      refine x_get C hW (t := 12) (k := 42) t1 kl_12 (by decide) fl_X12_120 (v := rv b0 (mR σ l0 42)) rfl dX12_drop_349 ?_
      refine x_aload_n C hl dX12_drop_352 rfl ?_
      refine x_get C hW (t := 12) (k := 62) t1 kl_12 (by decide) fl_X12_151 (v := rv b0 (mR σ l0 62)) rfl dX12_drop_353 ?_
      refine x_iload C hl dX12_drop_356 rfl ?_
      have t2 := h.1
      replace h := h.2
      have v3 := h.1
      replace h := h.2
      refine x_iald C hW t2 v3 dX12_drop_358 ?_
      refine x_aload_n C hl dX12_drop_359 rfl ?_
      refine x_get C hW (t := 12) (k := 42) t1 kl_12 (by decide) fl_X12_120 (v := rv b0 (mR σ l0 42)) rfl dX12_drop_360 ?_
      refine x_aload_n C hl dX12_drop_363 rfl ?_
      refine x_get C hW (t := 12) (k := 62) t1 kl_12 (by decide) fl_X12_151 (v := rv b0 (mR σ l0 62)) rfl dX12_drop_364 ?_
      refine x_iload C hl dX12_drop_367 rfl ?_
      refine x_iald C hW t2 v3 dX12_drop_369 ?_
      have t4 := h.1
      replace h := h.2
      have v5 := h.1
      replace h := h.2
      refine x_iald C hW t4 v5 dX12_drop_370 ?_
      refine lv_iconst (v := (2 : Int32)) hx hb dX12_drop_371 (by decide) ?_
      refine lv_icmp_ne hx hb dX12_drop_372 (tgt := 379) rfl (fun hc => ?_) (fun hc => ?_)
      · replace h := h.2 hc
        refine lv_iconst (v := (3 : Int32)) hx hb dX12_drop_379 (by decide) ?_
        exact t_X12_drop_380 C hr hK341 hS hW (hl.keep [true, false, false, false, true, true, false, false, false, false, false, false, false, false] rfl) h
      · replace h := h.1 hc
        refine lv_iconst (v := (4 : Int32)) hx hb dX12_drop_375 (by decide) ?_
        refine lv_goto hx hb dX12_drop_376 (tgt := 380) rfl ?_
        exact t_X12_drop_380 C hr hK341 hS hW (hl.keep [true, false, false, false, true, true, false, false, false, false, false, false, false, false] rfl) h
set_option maxRecDepth 20000 in
set_option maxHeartbeats 4000000 in
theorem t_X12_drop_341 {p : Program} {l : Launch} {e : Env} {s : State} {m : MethodId} {args : Array Value} {below : List Frame} {meth : Method} {c : Code} {H : Heap} {locs : List Loc} {D : va_G} {tc : Nat → ClassId} {b0 : Nat} {ls : Array Slot} {G : Lay} {Qx : Int32 → Mem → Prop} {l0 : Nat} {l4 : Int32} {l5 : Int32}  {σ : Mem} (C : Cx p s m args meth c cX12_drop RX12 14 D tc b0) (hr : meth.sig.returnType = (some FieldType.int)) (hS : va_S (AA b0) s.heap H locs) (hW : Wd G D tc b0 σ H) (hl : hL b0 ls 14 [some (.inr (.inr l0)), none, none, none, some (.inl l4), some (.inl l5), none, none, none, none, none, none, none, none]) (h : X_X12_drop_341 G Qx l0 l4 l5 σ) : W p l e rm_X12_drop s m args below meth c H locs 0 0 (MQ below (va_Qi Qx (fun u t => Pw G D tc b0 u t) (AA b0)) args s 0 0 (AA b0)) (F0 m 341 ls []) := by
  obtain ⟨n, h⟩ := h
  exact t_X12_drop_341_n C hr n l5 σ H locs ls hS hW hl h
set_option maxRecDepth 20000 in
set_option maxHeartbeats 4000000 in
theorem t_X12_drop_30_n {p : Program} {l : Launch} {e : Env} {s : State} {m : MethodId} {args : Array Value} {below : List Frame} {meth : Method} {c : Code} {D : va_G} {tc : Nat → ClassId} {b0 : Nat} {G : Lay} {Qx : Int32 → Mem → Prop} {l0 : Nat} {l3 : Int32} (C : Cx p s m args meth c cX12_drop RX12 14 D tc b0) (hr : meth.sig.returnType = (some FieldType.int)) (n : Nat) : ∀ (l4 : Int32) (l5 : Int32) (σ : Mem) (H : Heap) (locs : List Loc) (ls : Array Slot), va_S (AA b0) s.heap H locs → Wd G D tc b0 σ H → hL b0 ls 14 [some (.inr (.inr l0)), none, none, some (.inl l3), some (.inl l4), some (.inl l5), none, none, none, none, none, none, none, none] → Lp (X_X12_drop_30_s G Qx l0 l3) n (l4, l5, σ) → W p l e rm_X12_drop s m args below meth c H locs 0 0 (MQ below (va_Qi Qx (fun u t => Pw G D tc b0 u t) (AA b0)) args s 0 0 (AA b0)) (F0 m 30 ls []) := by
  have hx := C.1
  have hb := C.2.1
  induction n with
  | zero => intro l4 l5 σ H locs ls hS hW hl h; exact False.elim h
  | succ n hK30 =>
    intro l4 l5 σ H locs ls hS hW hl h
    replace h : X_X12_drop_30_s G Qx l0 l3 (Lp (X_X12_drop_30_s G Qx l0 l3) n) (l4, l5, σ) := h
    unfold X_X12_drop_30_s at h
    refine x_iload C hl dX12_drop_30 rfl ?_
    refine x_iload C hl dX12_drop_32 rfl ?_
    refine lv_icmp_ge hx hb dX12_drop_34 (tgt := 338) rfl (fun hc => ?_) (fun hc => ?_)
    · replace h := h.1 hc
      refine lv_iconst (v := (0 : Int32)) hx hb dX12_drop_338 (by decide) ?_
      refine x_istore C hl dX12_drop_339 (by decide) rfl (fun ls hl => ?_)
      exact t_X12_drop_341 C hr hS hW (hl.keep [true, false, false, false, true, true, false, false, false, false, false, false, false, false] rfl) h
    · replace h := h.2 hc
      refine x_aload_n C hl dX12_drop_37 rfl ?_
      have t1 := h.1
      replace h := h.2
      refine x_get C hW (t := 12) (k := 62) t1 kl_12 (by decide) fl_X12_151 (v := rv b0 (mR σ l0 62)) rfl dX12_drop_38 ?_
      refine x_iload C hl dX12_drop_41 rfl ?_
      have t2 := h.1
      replace h := h.2
      have v3 := h.1
      replace h := h.2
      refine x_iald C hW t2 v3 dX12_drop_43 ?_
      refine x_istore C hl dX12_drop_44 (by decide) rfl (fun ls hl => ?_)
      refine lv_iconst (v := (0 : Int32)) hx hb dX12_drop_46 (by decide) ?_
      refine x_istore C hl dX12_drop_47 (by decide) rfl (fun ls hl => ?_)
      exact t_X12_drop_49 C hr hK30 hS hW (hl.keep [true, false, false, true, true, true, true, true, false, false, false, false, false, false] rfl) h
set_option maxRecDepth 20000 in
set_option maxHeartbeats 4000000 in
theorem t_X12_drop_30 {p : Program} {l : Launch} {e : Env} {s : State} {m : MethodId} {args : Array Value} {below : List Frame} {meth : Method} {c : Code} {H : Heap} {locs : List Loc} {D : va_G} {tc : Nat → ClassId} {b0 : Nat} {ls : Array Slot} {G : Lay} {Qx : Int32 → Mem → Prop} {l0 : Nat} {l3 : Int32} {l4 : Int32} {l5 : Int32}  {σ : Mem} (C : Cx p s m args meth c cX12_drop RX12 14 D tc b0) (hr : meth.sig.returnType = (some FieldType.int)) (hS : va_S (AA b0) s.heap H locs) (hW : Wd G D tc b0 σ H) (hl : hL b0 ls 14 [some (.inr (.inr l0)), none, none, some (.inl l3), some (.inl l4), some (.inl l5), none, none, none, none, none, none, none, none]) (h : X_X12_drop_30 G Qx l0 l3 l4 l5 σ) : W p l e rm_X12_drop s m args below meth c H locs 0 0 (MQ below (va_Qi Qx (fun u t => Pw G D tc b0 u t) (AA b0)) args s 0 0 (AA b0)) (F0 m 30 ls []) := by
  obtain ⟨n, h⟩ := h
  exact t_X12_drop_30_n C hr n l4 l5 σ H locs ls hS hW hl h
set_option maxRecDepth 20000 in
set_option maxHeartbeats 4000000 in
theorem t_X12_drop_0 {p : Program} {l : Launch} {e : Env} {s : State} {m : MethodId} {args : Array Value} {below : List Frame} {meth : Method} {c : Code} {H : Heap} {locs : List Loc} {D : va_G} {tc : Nat → ClassId} {b0 : Nat} {ls : Array Slot} {G : Lay} {Qx : Int32 → Mem → Prop} {l0 : Nat} {l1 : Int32}  {σ : Mem} (C : Cx p s m args meth c cX12_drop RX12 14 D tc b0) (hr : meth.sig.returnType = (some FieldType.int)) (hS : va_S (AA b0) s.heap H locs) (hW : Wd G D tc b0 σ H) (hl : hL b0 ls 14 [some (.inr (.inr l0)), some (.inl l1), none, none, none, none, none, none, none, none, none, none, none, none]) (h : X_X12_drop_0 G Qx l0 l1  σ) : W p l e rm_X12_drop s m args below meth c H locs 0 0 (MQ below (va_Qi Qx (fun u t => Pw G D tc b0 u t) (AA b0)) args s 0 0 (AA b0)) (F0 m 0 ls []) := by
  have hx := C.1
  have hb := C.2.1
  unfold X_X12_drop_0 at h
  refine x_aload_n C hl dX12_drop_0 rfl ?_
  refine x_iload_n C hl dX12_drop_1 rfl ?_
  have t1 := h.1
  replace h := h.2
  refine y_i (x_run (As := [.int l1]) C hW hS (T_X12_liveOf l l0 l1 σ _ h) t1 kl_12 (CW.of yv_X12_liveOf ml_X12_409) ⟨rfl, rfl, ⟨by decide, by decide⟩, by decide, by decide⟩ rfl hl.1 rfl (by decide) dX12_drop_2) hS (fun w3 s2 H locs h hW hS => ?_)
  refine x_istore_n C hl dX12_drop_5 (by decide) rfl (fun ls hl => ?_)
  refine x_iload_n C hl dX12_drop_6 rfl ?_
  refine lv_if_ge hx hb dX12_drop_7 (tgt := 12) rfl (fun hc => ?_) (fun hc => ?_)
  · replace h := h.1 hc
    refine x_iload_n C hl dX12_drop_12 rfl ?_
    refine lv_bipush (v := (60 : Int32)) hx hb dX12_drop_13 (by decide) ?_
    refine lv_idiv hx hb dX12_drop_15 (by decide) ?_
    refine x_istore_n C hl dX12_drop_16 (by decide) rfl (fun ls hl => ?_)
    refine lv_iconst (v := (1 : Int32)) hx hb dX12_drop_17 (by decide) ?_
    refine x_istore C hl dX12_drop_18 (by decide) rfl (fun ls hl => ?_)
    refine x_aload_n C hl dX12_drop_20 rfl ?_
    refine x_get C hW (t := 12) (k := 62) t1 kl_12 (by decide) fl_X12_151 (v := rv b0 (mR s2 l0 62)) rfl dX12_drop_21 ?_
    refine lv_iconst (v := (0 : Int32)) hx hb dX12_drop_24 (by decide) ?_
    refine x_iload_n C hl dX12_drop_25 rfl ?_
    have t4 := h.1
    replace h := h.2
    have v5 := h.1
    replace h := h.2
    refine x_iast C hW hS t4 v5 dX12_drop_26 (fun H locs hW hS => ?_)
    obtain ⟨s6, e_s6⟩ : ∃ z : Mem, z = (sI s2 (mR s2 l0 62) (0 : Int32).toNatClampNeg w3) := ⟨_, rfl⟩
    replace h := h s6 e_s6
    replace hW : Wd G D tc b0 s6 H := by rw [e_s6]; exact hW
    refine lv_iconst (v := (0 : Int32)) hx hb dX12_drop_27 (by decide) ?_
    refine x_istore C hl dX12_drop_28 (by decide) rfl (fun ls hl => ?_)
    exact t_X12_drop_30 C hr hS hW (hl.keep [true, false, false, true, true, true, false, false, false, false, false, false, false, false] rfl) h
  · replace h := h.2 hc
    refine lv_iconst (v := (-1 : Int32)) hx hb dX12_drop_10 (by decide) ?_
    exact r_i C hr hW hS h dX12_drop_11
theorem T_X12_drop (l : Launch) {G : Lay} {D : va_G} {tc : Nat → ClassId} {b0 : Nat} (l0 : Nat) (l1 : Int32) (σ : Mem) (Qx : Int32 → Mem → Prop) (h : X_X12_drop G Qx l0 l1 σ) : MI l yX12_drop cX12_drop 14 ((some FieldType.int)) rm_X12_drop G D tc b0 [rv b0 l0, .int l1] σ Qx :=
  x_entry (y := yX12_drop) [.inr (.inr l0), .inl l1] 12 (by decide) (Nat.le_of_ble_eq_true rfl) (fun p e s m args below meth c ls C hr hW hl => t_X12_drop_0 C hr va_S.rf hW (hl.keep [true, true, false, false, false, false, false, false, false, false, false, false, false, false] rfl) h)
/-! X12_loads -/
set_option maxRecDepth 20000 in
set_option maxHeartbeats 4000000 in
theorem t_X12_loads_18 {p : Program} {l : Launch} {e : Env} {s : State} {m : MethodId} {args : Array Value} {below : List Frame} {meth : Method} {c : Code} {H : Heap} {locs : List Loc} {D : va_G} {tc : Nat → ClassId} {b0 : Nat} {ls : Array Slot} {G : Lay} {Qx : Int32 → Mem → Prop}  {k0 : Int32} {σ : Mem} (C : Cx p s m args meth c cX12_loads RX12 2 D tc b0) (hr : meth.sig.returnType = (some FieldType.int)) (hS : va_S (AA b0) s.heap H locs) (hW : Wd G D tc b0 σ H) (hl : hL b0 ls 2 [none, none]) (h : X_X12_loads_18 G Qx  k0 σ) : W p l e rm_X12_loads s m args below meth c H locs 0 0 (MQ below (va_Qi Qx (fun u t => Pw G D tc b0 u t) (AA b0)) args s 0 0 (AA b0)) (F0 m 18 ls [.int k0]) := by
  have hx := C.1
  have hb := C.2.1
  unfold X_X12_loads_18 at h
  exact r_i C hr hW hS h dX12_loads_18
set_option maxRecDepth 20000 in
set_option maxHeartbeats 4000000 in
theorem t_X12_loads_0 {p : Program} {l : Launch} {e : Env} {s : State} {m : MethodId} {args : Array Value} {below : List Frame} {meth : Method} {c : Code} {H : Heap} {locs : List Loc} {D : va_G} {tc : Nat → ClassId} {b0 : Nat} {ls : Array Slot} {G : Lay} {Qx : Int32 → Mem → Prop} {l0 : Nat} {l1 : Int32}  {σ : Mem} (C : Cx p s m args meth c cX12_loads RX12 2 D tc b0) (hr : meth.sig.returnType = (some FieldType.int)) (hS : va_S (AA b0) s.heap H locs) (hW : Wd G D tc b0 σ H) (hl : hL b0 ls 2 [some (.inr (.inr l0)), some (.inl l1)]) (h : X_X12_loads_0 G Qx l0 l1  σ) : W p l e rm_X12_loads s m args below meth c H locs 0 0 (MQ below (va_Qi Qx (fun u t => Pw G D tc b0 u t) (AA b0)) args s 0 0 (AA b0)) (F0 m 0 ls []) := by
  have hx := C.1
  have hb := C.2.1
  unfold X_X12_loads_0 at h
  refine x_aload_n C hl dX12_loads_0 rfl ?_
  refine x_iload_n C hl dX12_loads_1 rfl ?_
  have t1 := h.1
  replace h := h.2
  refine y_i (x_run (As := [.int l1]) C hW hS (T_X12_isUnit l l0 l1 σ _ h) t1 kl_12 (CW.of yv_X12_isUnit ml_X12_380) ⟨rfl, rfl, ⟨by decide, by decide⟩, by decide, by decide⟩ rfl hl.1 rfl (by decide) dX12_loads_2) hS (fun w3 s2 H locs h hW hS => ?_)
  refine lv_if_eq hx hb dX12_loads_5 (tgt := 17) rfl (fun hc => ?_) (fun hc => ?_)
  · replace h := h.1 hc
    refine lv_iconst (v := (-1 : Int32)) hx hb dX12_loads_17 (by decide) ?_
    exact t_X12_loads_18 C hr hS hW (hl.keep [false, false] rfl) h
  · replace h := h.2 hc
    refine x_aload_n C hl dX12_loads_8 rfl ?_
    refine x_get C hW (t := 12) (k := 41) t1 kl_12 (by decide) fl_X12_117 (v := rv b0 (mR s2 l0 41)) rfl dX12_loads_9 ?_
    refine x_iload_n C hl dX12_loads_12 rfl ?_
    have t4 := h.1
    replace h := h.2
    have v5 := h.1
    replace h := h.2
    refine x_iald C hW t4 v5 dX12_loads_13 ?_
    refine lv_goto hx hb dX12_loads_14 (tgt := 18) rfl ?_
    exact t_X12_loads_18 C hr hS hW (hl.keep [false, false] rfl) h
theorem T_X12_loads (l : Launch) {G : Lay} {D : va_G} {tc : Nat → ClassId} {b0 : Nat} (l0 : Nat) (l1 : Int32) (σ : Mem) (Qx : Int32 → Mem → Prop) (h : X_X12_loads G Qx l0 l1 σ) : MI l yX12_loads cX12_loads 2 ((some FieldType.int)) rm_X12_loads G D tc b0 [rv b0 l0, .int l1] σ Qx :=
  x_entry (y := yX12_loads) [.inr (.inr l0), .inl l1] 0 (by decide) (Nat.le_of_ble_eq_true rfl) (fun p e s m args below meth c ls C hr hW hl => t_X12_loads_0 C hr va_S.rf hW (hl.keep [true, true] rfl) h)
/-! X12_other -/
set_option maxRecDepth 20000 in
set_option maxHeartbeats 4000000 in
theorem t_X12_other_47 {p : Program} {l : Launch} {e : Env} {s : State} {m : MethodId} {args : Array Value} {below : List Frame} {meth : Method} {c : Code} {H : Heap} {locs : List Loc} {D : va_G} {tc : Nat → ClassId} {b0 : Nat} {ls : Array Slot} {G : Lay} {Qx : Int32 → Mem → Prop}   {σ : Mem} (C : Cx p s m args meth c cX12_other RX12 8 D tc b0) (hr : meth.sig.returnType = (some FieldType.boolean)) (hS : va_S (AA b0) s.heap H locs) (hW : Wd G D tc b0 σ H) (hl : hL b0 ls 8 [none, none, none, none, none, none, none, none]) (h : X_X12_other_47 G Qx   σ) : W p l e rm_X12_other s m args below meth c H locs 0 0 (MQ below (va_Qi Qx (fun u t => Pw G D tc b0 u t) (AA b0)) args s 0 0 (AA b0)) (F0 m 47 ls []) := by
  have hx := C.1
  have hb := C.2.1
  unfold X_X12_other_47 at h
  refine lv_iconst (v := (0 : Int32)) hx hb dX12_other_47 (by decide) ?_
  exact r_z C hr hW hS h.1 h.2 dX12_other_48
set_option maxRecDepth 20000 in
set_option maxHeartbeats 4000000 in
theorem t_X12_other_118 {p : Program} {l : Launch} {e : Env} {s : State} {m : MethodId} {args : Array Value} {below : List Frame} {meth : Method} {c : Code} {H : Heap} {locs : List Loc} {D : va_G} {tc : Nat → ClassId} {b0 : Nat} {ls : Array Slot} {G : Lay} {Qx : Int32 → Mem → Prop}   {σ : Mem} (C : Cx p s m args meth c cX12_other RX12 8 D tc b0) (hr : meth.sig.returnType = (some FieldType.boolean)) (hS : va_S (AA b0) s.heap H locs) (hW : Wd G D tc b0 σ H) (hl : hL b0 ls 8 [none, none, none, none, none, none, none, none]) (h : X_X12_other_118 G Qx   σ) : W p l e rm_X12_other s m args below meth c H locs 0 0 (MQ below (va_Qi Qx (fun u t => Pw G D tc b0 u t) (AA b0)) args s 0 0 (AA b0)) (F0 m 118 ls []) := by
  have hx := C.1
  have hb := C.2.1
  unfold X_X12_other_118 at h
  refine lv_iconst (v := (0 : Int32)) hx hb dX12_other_118 (by decide) ?_
  exact r_z C hr hW hS h.1 h.2 dX12_other_119
set_option maxRecDepth 20000 in
set_option maxHeartbeats 4000000 in
theorem t_X12_other_120 {p : Program} {l : Launch} {e : Env} {s : State} {m : MethodId} {args : Array Value} {below : List Frame} {meth : Method} {c : Code} {H : Heap} {locs : List Loc} {D : va_G} {tc : Nat → ClassId} {b0 : Nat} {ls : Array Slot} {G : Lay} {Qx : Int32 → Mem → Prop} {l0 : Nat} {l2 : Int32} {l3 : Int32} {l4 : Int32} {l5 : Int32}  {σ : Mem} (C : Cx p s m args meth c cX12_other RX12 8 D tc b0) (hr : meth.sig.returnType = (some FieldType.boolean)) (hS : va_S (AA b0) s.heap H locs) (hW : Wd G D tc b0 σ H) (hl : hL b0 ls 8 [some (.inr (.inr l0)), none, some (.inl l2), some (.inl l3), some (.inl l4), some (.inl l5), none, none]) (h : X_X12_other_120 G Qx l0 l2 l3 l4 l5  σ) : W p l e rm_X12_other s m args below meth c H locs 0 0 (MQ below (va_Qi Qx (fun u t => Pw G D tc b0 u t) (AA b0)) args s 0 0 (AA b0)) (F0 m 120 ls []) := by
  have hx := C.1
  have hb := C.2.1
  unfold X_X12_other_120 at h
  refine x_aload_n C hl dX12_other_120 rfl ?_
  have t1 := h.1
  replace h := h.2
  refine x_get C hW (t := 12) (k := 31) t1 kl_12 (by decide) fl_X12_89 (v := rv b0 (mR σ l0 31)) rfl dX12_other_121 ?_
  refine lv_bipush (v := (16 : Int32)) hx hb dX12_other_124 (by decide) ?_
  refine x_iload C hl dX12_other_126 rfl ?_
  refine lv_imul hx hb dX12_other_128 ?_
  refine x_iload_n C hl dX12_other_129 rfl ?_
  refine lv_iadd hx hb dX12_other_130 ?_
  have t2 := h.1
  replace h := h.2
  have v3 := h.1
  replace h := h.2
  refine x_iald C hW t2 v3 dX12_other_131 ?_
  refine x_istore C hl dX12_other_132 (by decide) rfl (fun ls hl => ?_)
  refine x_aload_n C hl dX12_other_134 rfl ?_
  refine x_get C hW (t := 12) (k := 31) t1 kl_12 (by decide) fl_X12_89 (v := rv b0 (mR σ l0 31)) rfl dX12_other_135 ?_
  refine lv_bipush (v := (16 : Int32)) hx hb dX12_other_138 (by decide) ?_
  refine x_iload C hl dX12_other_140 rfl ?_
  refine lv_imul hx hb dX12_other_142 ?_
  refine x_iload_n C hl dX12_other_143 rfl ?_
  refine lv_iadd hx hb dX12_other_144 ?_
  refine x_iload C hl dX12_other_145 rfl ?_
  refine x_iast C hW hS t2 v3 dX12_other_147 (fun H locs hW hS => ?_)
  obtain ⟨s4, e_s4⟩ : ∃ z : Mem, z = (sI σ (mR σ l0 31) (((16 : Int32) * l5) + l3).toNatClampNeg l4) := ⟨_, rfl⟩
  replace h := h s4 e_s4
  replace hW : Wd G D tc b0 s4 H := by rw [e_s4]; exact hW
  refine x_aload_n C hl dX12_other_148 rfl ?_
  refine x_aload_n C hl dX12_other_149 rfl ?_
  refine x_get C hW (t := 12) (k := 27) t1 kl_12 (by decide) fl_X12_77 (v := rv b0 (mR s4 l0 27)) rfl dX12_other_150 ?_
  refine x_iload C hl dX12_other_153 rfl ?_
  have t5 := h.1
  replace h := h.2
  have v6 := h.1
  replace h := h.2
  refine x_iald C hW t5 v6 dX12_other_155 ?_
  refine x_iload_n C hl dX12_other_156 rfl ?_
  refine x_aload_n C hl dX12_other_157 rfl ?_
  refine x_get C hW (t := 12) (k := 29) t1 kl_12 (by decide) fl_X12_83 (v := rv b0 (mR s4 l0 29)) rfl dX12_other_158 ?_
  refine x_iload C hl dX12_other_161 rfl ?_
  have t7 := h.1
  replace h := h.2
  have v8 := h.1
  replace h := h.2
  refine x_iald C hW t7 v8 dX12_other_163 ?_
  refine x_aload_n C hl dX12_other_164 rfl ?_
  refine x_get C hW (t := 12) (k := 31) t1 kl_12 (by decide) fl_X12_89 (v := rv b0 (mR s4 l0 31)) rfl dX12_other_165 ?_
  refine lv_bipush (v := (16 : Int32)) hx hb dX12_other_168 (by decide) ?_
  refine x_iload C hl dX12_other_170 rfl ?_
  refine lv_imul hx hb dX12_other_172 ?_
  refine y_i (x_run (As := [.int (mI s4 (mR s4 l0 27) l5.toNatClampNeg), .int l2, .int (mI s4 (mR s4 l0 29) l5.toNatClampNeg), rv b0 (mR s4 l0 31), .int ((16 : Int32) * l5)]) C hW hS (T_X12_broken l l0 (mI s4 (mR s4 l0 27) l5.toNatClampNeg) l2 (mI s4 (mR s4 l0 29) l5.toNatClampNeg) (mR s4 l0 31) ((16 : Int32) * l5) s4 _ h) t1 kl_12 (CW.of yv_X12_broken ml_X12_430) ⟨rfl, rfl, ⟨by decide, by decide⟩, by decide, by decide⟩ rfl hl.1 rfl (by decide) dX12_other_173) hS (fun w10 s9 H locs h hW hS => ?_)
  refine lv_if_eq hx hb dX12_other_176 (tgt := 195) rfl (fun hc => ?_) (fun hc => ?_)
  · replace h := h.1 hc
    refine x_aload_n C hl dX12_other_195 rfl ?_
    refine x_get C hW (t := 12) (k := 30) t1 kl_12 (by decide) fl_X12_86 (v := rv b0 (mR s9 l0 30)) rfl dX12_other_196 ?_
    refine x_iload C hl dX12_other_199 rfl ?_
    refine lv_dup2_11 hx hb dX12_other_201 rfl (rv_cat _ _) ?_
    have t11 := h.1
    replace h := h.2
    have v12 := h.1
    replace h := h.2
    refine x_iald C hW t11 v12 dX12_other_202 ?_
    refine lv_iconst (v := (1 : Int32)) hx hb dX12_other_203 (by decide) ?_
    refine lv_iadd hx hb dX12_other_204 ?_
    refine x_iast C hW hS t11 v12 dX12_other_205 (fun H locs hW hS => ?_)
    obtain ⟨s13, e_s13⟩ : ∃ z : Mem, z = (sI s9 (mR s9 l0 30) l5.toNatClampNeg ((mI s9 (mR s9 l0 30) l5.toNatClampNeg) + (1 : Int32))) := ⟨_, rfl⟩
    replace h := h s13 e_s13
    replace hW : Wd G D tc b0 s13 H := by rw [e_s13]; exact hW
    refine lv_iconst (v := (1 : Int32)) hx hb dX12_other_206 (by decide) ?_
    exact r_z C hr hW hS h.1 h.2 dX12_other_207
  · replace h := h.2 hc
    refine x_aload_n C hl dX12_other_179 rfl ?_
    refine x_get C hW (t := 12) (k := 31) t1 kl_12 (by decide) fl_X12_89 (v := rv b0 (mR s9 l0 31)) rfl dX12_other_180 ?_
    refine lv_bipush (v := (16 : Int32)) hx hb dX12_other_183 (by decide) ?_
    refine x_iload C hl dX12_other_185 rfl ?_
    refine lv_imul hx hb dX12_other_187 ?_
    refine x_iload_n C hl dX12_other_188 rfl ?_
    refine lv_iadd hx hb dX12_other_189 ?_
    refine x_iload C hl dX12_other_190 rfl ?_
    have t14 := h.1
    replace h := h.2
    have v15 := h.1
    replace h := h.2
    refine x_iast C hW hS t14 v15 dX12_other_192 (fun H locs hW hS => ?_)
    obtain ⟨s16, e_s16⟩ : ∃ z : Mem, z = (sI s9 (mR s9 l0 31) (((16 : Int32) * l5) + l3).toNatClampNeg (mI σ (mR σ l0 31) (((16 : Int32) * l5) + l3).toNatClampNeg)) := ⟨_, rfl⟩
    replace h := h s16 e_s16
    replace hW : Wd G D tc b0 s16 H := by rw [e_s16]; exact hW
    refine lv_iconst (v := (0 : Int32)) hx hb dX12_other_193 (by decide) ?_
    exact r_z C hr hW hS h.1 h.2 dX12_other_194
set_option maxRecDepth 20000 in
set_option maxHeartbeats 4000000 in
theorem t_X12_other_102 {p : Program} {l : Launch} {e : Env} {s : State} {m : MethodId} {args : Array Value} {below : List Frame} {meth : Method} {c : Code} {H : Heap} {locs : List Loc} {D : va_G} {tc : Nat → ClassId} {b0 : Nat} {ls : Array Slot} {G : Lay} {Qx : Int32 → Mem → Prop} {l0 : Nat} {l2 : Int32} {l3 : Int32} {l4 : Int32} {l5 : Int32} {l6 : Int32}  {σ : Mem} (C : Cx p s m args meth c cX12_other RX12 8 D tc b0) (hr : meth.sig.returnType = (some FieldType.boolean)) (hS : va_S (AA b0) s.heap H locs) (hW : Wd G D tc b0 σ H) (hl : hL b0 ls 8 [some (.inr (.inr l0)), none, some (.inl l2), some (.inl l3), some (.inl l4), some (.inl l5), some (.inl l6), none]) (h : X_X12_other_102 G Qx l0 l2 l3 l4 l5 l6  σ) : W p l e rm_X12_other s m args below meth c H locs 0 0 (MQ below (va_Qi Qx (fun u t => Pw G D tc b0 u t) (AA b0)) args s 0 0 (AA b0)) (F0 m 102 ls []) := by
  have hx := C.1
  have hb := C.2.1
  unfold X_X12_other_102 at h
  refine x_aload_n C hl dX12_other_102 rfl ?_
  have t1 := h.1
  replace h := h.2
  refine x_get C hW (t := 12) (k := 9) t1 kl_12 (by decide) fl_X12_32 (v := rv b0 (mR σ l0 9)) rfl dX12_other_103 ?_
  refine x_iload C hl dX12_other_106 rfl ?_
  have t2 := h.1
  replace h := h.2
  have v3 := h.1
  replace h := h.2
  refine x_iald C hW t2 v3 dX12_other_108 ?_
  refine lv_iconst (v := (4 : Int32)) hx hb dX12_other_109 (by decide) ?_
  refine lv_icmp_ne hx hb dX12_other_110 (tgt := 120) rfl (fun hc => ?_) (fun hc => ?_)
  · replace h := h.2 hc
    exact t_X12_other_120 C hr hS hW (hl.keep [true, false, true, true, true, true, false, false] rfl) h
  · replace h := h.1 hc
    refine x_iload C hl dX12_other_113 rfl ?_
    refine lv_if_ge hx hb dX12_other_115 (tgt := 120) rfl (fun hc => ?_) (fun hc => ?_)
    · replace h := h.1 hc
      exact t_X12_other_120 C hr hS hW (hl.keep [true, false, true, true, true, true, false, false] rfl) h
    · replace h := h.2 hc
      exact t_X12_other_118 C hr hS hW (hl.keep [false, false, false, false, false, false, false, false] rfl) h
set_option maxRecDepth 20000 in
set_option maxHeartbeats 4000000 in
theorem t_X12_other_0 {p : Program} {l : Launch} {e : Env} {s : State} {m : MethodId} {args : Array Value} {below : List Frame} {meth : Method} {c : Code} {H : Heap} {locs : List Loc} {D : va_G} {tc : Nat → ClassId} {b0 : Nat} {ls : Array Slot} {G : Lay} {Qx : Int32 → Mem → Prop} {l0 : Nat} {l1 : Int32} {l2 : Int32} {l3 : Int32} {l4 : Int32}  {σ : Mem} (C : Cx p s m args meth c cX12_other RX12 8 D tc b0) (hr : meth.sig.returnType = (some FieldType.boolean)) (hS : va_S (AA b0) s.heap H locs) (hW : Wd G D tc b0 σ H) (hl : hL b0 ls 8 [some (.inr (.inr l0)), some (.inl l1), some (.inl l2), some (.inl l3), some (.inl l4), none, none, none]) (h : X_X12_other_0 G Qx l0 l1 l2 l3 l4  σ) : W p l e rm_X12_other s m args below meth c H locs 0 0 (MQ below (va_Qi Qx (fun u t => Pw G D tc b0 u t) (AA b0)) args s 0 0 (AA b0)) (F0 m 0 ls []) := by
  have hx := C.1
  have hb := C.2.1
  unfold X_X12_other_0 at h
  refine x_aload_n C hl dX12_other_0 rfl ?_
  refine x_iload_n C hl dX12_other_1 rfl ?_
  have t1 := h.1
  replace h := h.2
  refine y_i (x_run (As := [.int l1]) C hW hS (T_X12_isClass l l0 l1 σ _ h) t1 kl_12 (CW.of yv_X12_isClass ml_X12_350) ⟨rfl, rfl, ⟨by decide, by decide⟩, by decide, by decide⟩ rfl hl.1 rfl (by decide) dX12_other_2) hS (fun w3 s2 H locs h hW hS => ?_)
  refine lv_if_ne hx hb dX12_other_5 (tgt := 10) rfl (fun hc => ?_) (fun hc => ?_)
  · replace h := h.2 hc
    refine x_aload_n C hl dX12_other_10 rfl ?_
    refine x_aload_n C hl dX12_other_11 rfl ?_
    refine x_iload_n C hl dX12_other_12 rfl ?_
    refine y_i (x_run (As := [.int l1]) C hW hS (T_X12_rootOf l l0 l1 s2 _ h) t1 kl_12 (CW.of yv_X12_rootOf ml_X12_353) ⟨rfl, rfl, ⟨by decide, by decide⟩, by decide, by decide⟩ rfl hl.1 rfl (by simp [rv_cat, cat_i, cat_l]) dX12_other_13) hS (fun w5 s4 H locs h hW hS => ?_)
    refine x_iload_n C hl dX12_other_16 rfl ?_
    refine y_i (x_run (As := [.int w5, .int l2]) C hW hS (T_X12_rowOf l l0 w5 l2 s4 _ h) t1 kl_12 (CW.of yv_X12_rowOf ml_X12_369) ⟨rfl, rfl, ⟨by decide, by decide⟩, by decide, by decide⟩ rfl hl.1 rfl (by decide) dX12_other_17) hS (fun w7 s6 H locs h hW hS => ?_)
    refine x_istore C hl dX12_other_20 (by decide) rfl (fun ls hl => ?_)
    refine x_iload C hl dX12_other_22 rfl ?_
    refine lv_if_lt hx hb dX12_other_24 (tgt := 47) rfl (fun hc => ?_) (fun hc => ?_)
    · replace h := h.1 hc
      exact t_X12_other_47 C hr hS hW (hl.keep [false, false, false, false, false, false, false, false] rfl) h
    · replace h := h.2 hc
      refine x_iload_n C hl dX12_other_27 rfl ?_
      refine lv_if_lt hx hb dX12_other_28 (tgt := 47) rfl (fun hc => ?_) (fun hc => ?_)
      · replace h := h.1 hc
        exact t_X12_other_47 C hr hS hW (hl.keep [false, false, false, false, false, false, false, false] rfl) h
      · replace h := h.2 hc
        refine x_iload_n C hl dX12_other_31 rfl ?_
        refine x_aload_n C hl dX12_other_32 rfl ?_
        refine x_get C hW (t := 12) (k := 6) t1 kl_12 (by decide) fl_X12_23 (v := rv b0 (mR s6 l0 6)) rfl dX12_other_33 ?_
        refine x_aload_n C hl dX12_other_36 rfl ?_
        refine x_get C hW (t := 12) (k := 29) t1 kl_12 (by decide) fl_X12_83 (v := rv b0 (mR s6 l0 29)) rfl dX12_other_37 ?_
        refine x_iload C hl dX12_other_40 rfl ?_
        have t8 := h.1
        replace h := h.2
        have v9 := h.1
        replace h := h.2
        refine x_iald C hW t8 v9 dX12_other_42 ?_
        have t10 := h.1
        replace h := h.2
        have v11 := h.1
        replace h := h.2
        refine x_iald C hW t10 v11 dX12_other_43 ?_
        refine lv_icmp_lt hx hb dX12_other_44 (tgt := 49) rfl (fun hc => ?_) (fun hc => ?_)
        · replace h := h.1 hc
          refine lv_bipush (v := (16 : Int32)) hx hb dX12_other_49 (by decide) ?_
          refine x_aload_n C hl dX12_other_51 rfl ?_
          refine x_get C hW (t := 12) (k := 29) t1 kl_12 (by decide) fl_X12_83 (v := rv b0 (mR s6 l0 29)) rfl dX12_other_52 ?_
          refine x_iload C hl dX12_other_55 rfl ?_
          refine x_iald C hW t8 v9 dX12_other_57 ?_
          refine lv_imul hx hb dX12_other_58 ?_
          refine x_iload_n C hl dX12_other_59 rfl ?_
          refine lv_iadd hx hb dX12_other_60 ?_
          refine x_istore C hl dX12_other_61 (by decide) rfl (fun ls hl => ?_)
          refine x_aload_n C hl dX12_other_63 rfl ?_
          refine x_get C hW (t := 12) (k := 9) t1 kl_12 (by decide) fl_X12_32 (v := rv b0 (mR s6 l0 9)) rfl dX12_other_64 ?_
          refine x_iload C hl dX12_other_67 rfl ?_
          have t12 := h.1
          replace h := h.2
          have v13 := h.1
          replace h := h.2
          refine x_iald C hW t12 v13 dX12_other_69 ?_
          refine lv_iconst (v := (5 : Int32)) hx hb dX12_other_70 (by decide) ?_
          refine lv_icmp_eq hx hb dX12_other_71 (tgt := 118) rfl (fun hc => ?_) (fun hc => ?_)
          · replace h := h.1 hc
            exact t_X12_other_118 C hr hS hW (hl.keep [false, false, false, false, false, false, false, false] rfl) h
          · replace h := h.2 hc
            refine x_aload_n C hl dX12_other_74 rfl ?_
            refine x_get C hW (t := 12) (k := 9) t1 kl_12 (by decide) fl_X12_32 (v := rv b0 (mR s6 l0 9)) rfl dX12_other_75 ?_
            refine x_iload C hl dX12_other_78 rfl ?_
            refine x_iald C hW t12 v13 dX12_other_80 ?_
            refine lv_iconst (v := (4 : Int32)) hx hb dX12_other_81 (by decide) ?_
            refine lv_icmp_ge hx hb dX12_other_82 (tgt := 102) rfl (fun hc => ?_) (fun hc => ?_)
            · replace h := h.1 hc
              exact t_X12_other_102 C hr hS hW (hl.keep [true, false, true, true, true, true, true, false] rfl) h
            · replace h := h.2 hc
              refine x_aload_n C hl dX12_other_85 rfl ?_
              refine x_aload_n C hl dX12_other_86 rfl ?_
              refine x_get C hW (t := 12) (k := 29) t1 kl_12 (by decide) fl_X12_83 (v := rv b0 (mR s6 l0 29)) rfl dX12_other_87 ?_
              refine x_iload C hl dX12_other_90 rfl ?_
              refine x_iald C hW t8 v9 dX12_other_92 ?_
              refine x_iload_n C hl dX12_other_93 rfl ?_
              refine x_iload C hl dX12_other_94 rfl ?_
              refine y_i (x_run (As := [.int (mI s6 (mR s6 l0 29) w7.toNatClampNeg), .int l3, .int l4]) C hW hS (T_X12_isValue l l0 (mI s6 (mR s6 l0 29) w7.toNatClampNeg) l3 l4 s6 _ h) t1 kl_12 (CW.of yv_X12_isValue ml_X12_418) ⟨rfl, rfl, ⟨by decide, by decide⟩, by decide, by decide⟩ rfl hl.1 rfl (by decide) dX12_other_96) hS (fun w15 s14 H locs h hW hS => ?_)
              refine lv_if_eq hx hb dX12_other_99 (tgt := 118) rfl (fun hc => ?_) (fun hc => ?_)
              · replace h := h.1 hc
                exact t_X12_other_118 C hr hS hW (hl.keep [false, false, false, false, false, false, false, false] rfl) h
              · replace h := h.2 hc
                exact t_X12_other_102 C hr hS hW (hl.keep [true, false, true, true, true, true, true, false] rfl) h
        · replace h := h.2 hc
          exact t_X12_other_47 C hr hS hW (hl.keep [false, false, false, false, false, false, false, false] rfl) h
  · replace h := h.1 hc
    refine lv_iconst (v := (0 : Int32)) hx hb dX12_other_8 (by decide) ?_
    exact r_z C hr hW hS h.1 h.2 dX12_other_9
theorem T_X12_other (l : Launch) {G : Lay} {D : va_G} {tc : Nat → ClassId} {b0 : Nat} (l0 : Nat) (l1 : Int32) (l2 : Int32) (l3 : Int32) (l4 : Int32) (σ : Mem) (Qx : Int32 → Mem → Prop) (h : X_X12_other G Qx l0 l1 l2 l3 l4 σ) : MI l yX12_other cX12_other 8 ((some FieldType.boolean)) rm_X12_other G D tc b0 [rv b0 l0, .int l1, .int l2, .int l3, .int l4] σ Qx :=
  x_entry (y := yX12_other) [.inr (.inr l0), .inl l1, .inl l2, .inl l3, .inl l4] 3 (by decide) (Nat.le_of_ble_eq_true rfl) (fun p e s m args below meth c ls C hr hW hl => t_X12_other_0 C hr va_S.rf hW (hl.keep [true, true, true, true, true, false, false, false] rfl) h)
/-! X12_ends -/
set_option maxRecDepth 20000 in
set_option maxHeartbeats 4000000 in
theorem t_X12_ends_46 {p : Program} {l : Launch} {e : Env} {s : State} {m : MethodId} {args : Array Value} {below : List Frame} {meth : Method} {c : Code} {H : Heap} {locs : List Loc} {D : va_G} {tc : Nat → ClassId} {b0 : Nat} {ls : Array Slot} {G : Lay} {Qx : Int32 → Mem → Prop}   {σ : Mem} (C : Cx p s m args meth c cX12_ends RX12 3 D tc b0) (hr : meth.sig.returnType = (some FieldType.boolean)) (hS : va_S (AA b0) s.heap H locs) (hW : Wd G D tc b0 σ H) (hl : hL b0 ls 3 [none, none, none]) (h : X_X12_ends_46 G Qx   σ) : W p l e rm_X12_ends s m args below meth c H locs 0 0 (MQ below (va_Qi Qx (fun u t => Pw G D tc b0 u t) (AA b0)) args s 0 0 (AA b0)) (F0 m 46 ls []) := by
  have hx := C.1
  have hb := C.2.1
  unfold X_X12_ends_46 at h
  refine lv_iconst (v := (0 : Int32)) hx hb dX12_ends_46 (by decide) ?_
  exact r_z C hr hW hS h.1 h.2 dX12_ends_47
set_option maxRecDepth 20000 in
set_option maxHeartbeats 4000000 in
theorem t_X12_ends_0 {p : Program} {l : Launch} {e : Env} {s : State} {m : MethodId} {args : Array Value} {below : List Frame} {meth : Method} {c : Code} {H : Heap} {locs : List Loc} {D : va_G} {tc : Nat → ClassId} {b0 : Nat} {ls : Array Slot} {G : Lay} {Qx : Int32 → Mem → Prop} {l0 : Nat} {l1 : Int32} {l2 : Int32}  {σ : Mem} (C : Cx p s m args meth c cX12_ends RX12 3 D tc b0) (hr : meth.sig.returnType = (some FieldType.boolean)) (hS : va_S (AA b0) s.heap H locs) (hW : Wd G D tc b0 σ H) (hl : hL b0 ls 3 [some (.inr (.inr l0)), some (.inl l1), some (.inl l2)]) (h : X_X12_ends_0 G Qx l0 l1 l2  σ) : W p l e rm_X12_ends s m args below meth c H locs 0 0 (MQ below (va_Qi Qx (fun u t => Pw G D tc b0 u t) (AA b0)) args s 0 0 (AA b0)) (F0 m 0 ls []) := by
  have hx := C.1
  have hb := C.2.1
  unfold X_X12_ends_0 at h
  refine x_aload_n C hl dX12_ends_0 rfl ?_
  refine x_iload_n C hl dX12_ends_1 rfl ?_
  have t1 := h.1
  replace h := h.2
  refine x_putI C hW hS (t := 12) (k := 64) t1 kl_12 (by decide) fl_X12_434 rfl rfl rfl rfl dX12_ends_2 (fun H locs hW hS => ?_)
  obtain ⟨s2, e_s2⟩ : ∃ z : Mem, z = (sI σ l0 64 l1) := ⟨_, rfl⟩
  replace h := h s2 e_s2
  replace hW : Wd G D tc b0 s2 H := by rw [e_s2]; exact hW
  refine x_aload_n C hl dX12_ends_5 rfl ?_
  refine x_aload_n C hl dX12_ends_6 rfl ?_
  refine x_get C hW (t := 12) (k := 45) t1 kl_12 (by decide) fl_X12_129 (v := rv b0 (mR s2 l0 45)) rfl dX12_ends_7 ?_
  refine x_iload_n C hl dX12_ends_10 rfl ?_
  have t3 := h.1
  replace h := h.2
  have v4 := h.1
  replace h := h.2
  refine x_iald C hW t3 v4 dX12_ends_11 ?_
  refine x_putI C hW hS (t := 12) (k := 65) t1 kl_12 (by decide) fl_X12_157 rfl rfl rfl rfl dX12_ends_12 (fun H locs hW hS => ?_)
  obtain ⟨s5, e_s5⟩ : ∃ z : Mem, z = (sI s2 l0 65 (mI s2 (mR s2 l0 45) l2.toNatClampNeg)) := ⟨_, rfl⟩
  replace h := h s5 e_s5
  replace hW : Wd G D tc b0 s5 H := by rw [e_s5]; exact hW
  refine x_aload_n C hl dX12_ends_15 rfl ?_
  refine x_aload_n C hl dX12_ends_16 rfl ?_
  refine x_get C hW (t := 12) (k := 44) t1 kl_12 (by decide) fl_X12_126 (v := rv b0 (mR s5 l0 44)) rfl dX12_ends_17 ?_
  refine x_iload_n C hl dX12_ends_20 rfl ?_
  have t6 := h.1
  replace h := h.2
  have v7 := h.1
  replace h := h.2
  refine x_iald C hW t6 v7 dX12_ends_21 ?_
  refine x_putI C hW hS (t := 12) (k := 66) t1 kl_12 (by decide) fl_X12_160 rfl rfl rfl rfl dX12_ends_22 (fun H locs hW hS => ?_)
  obtain ⟨s8, e_s8⟩ : ∃ z : Mem, z = (sI s5 l0 66 (mI s5 (mR s5 l0 44) l2.toNatClampNeg)) := ⟨_, rfl⟩
  replace h := h s8 e_s8
  replace hW : Wd G D tc b0 s8 H := by rw [e_s8]; exact hW
  refine x_iload_n C hl dX12_ends_25 rfl ?_
  refine lv_iconst (v := (1 : Int32)) hx hb dX12_ends_26 (by decide) ?_
  refine lv_icmp_ne hx hb dX12_ends_27 (tgt := 46) rfl (fun hc => ?_) (fun hc => ?_)
  · replace h := h.2 hc
    exact t_X12_ends_46 C hr hS hW (hl.keep [false, false, false] rfl) h
  · replace h := h.1 hc
    refine x_aload_n C hl dX12_ends_30 rfl ?_
    refine x_aload_n C hl dX12_ends_31 rfl ?_
    refine x_get C hW (t := 12) (k := 57) t1 kl_12 (by decide) fl_X12_356 (v := .int (mI s8 l0 57)) rfl dX12_ends_32 ?_
    refine x_putI C hW hS (t := 12) (k := 67) t1 kl_12 (by decide) fl_X12_163 rfl rfl rfl rfl dX12_ends_35 (fun H locs hW hS => ?_)
    obtain ⟨s9, e_s9⟩ : ∃ z : Mem, z = (sI s8 l0 67 (mI s8 l0 57)) := ⟨_, rfl⟩
    replace h := h s9 e_s9
    replace hW : Wd G D tc b0 s9 H := by rw [e_s9]; exact hW
    refine x_aload_n C hl dX12_ends_38 rfl ?_
    refine x_aload_n C hl dX12_ends_39 rfl ?_
    refine x_get C hW (t := 12) (k := 58) t1 kl_12 (by decide) fl_X12_359 (v := .int (mI s9 l0 58)) rfl dX12_ends_40 ?_
    refine x_putI C hW hS (t := 12) (k := 68) t1 kl_12 (by decide) fl_X12_166 rfl rfl rfl rfl dX12_ends_43 (fun H locs hW hS => ?_)
    obtain ⟨s10, e_s10⟩ : ∃ z : Mem, z = (sI s9 l0 68 (mI s9 l0 58)) := ⟨_, rfl⟩
    replace h := h s10 e_s10
    replace hW : Wd G D tc b0 s10 H := by rw [e_s10]; exact hW
    exact t_X12_ends_46 C hr hS hW (hl.keep [false, false, false] rfl) h
theorem T_X12_ends (l : Launch) {G : Lay} {D : va_G} {tc : Nat → ClassId} {b0 : Nat} (l0 : Nat) (l1 : Int32) (l2 : Int32) (σ : Mem) (Qx : Int32 → Mem → Prop) (h : X_X12_ends G Qx l0 l1 l2 σ) : MI l yX12_ends cX12_ends 3 ((some FieldType.boolean)) rm_X12_ends G D tc b0 [rv b0 l0, .int l1, .int l2] σ Qx :=
  x_entry (y := yX12_ends) [.inr (.inr l0), .inl l1, .inl l2] 0 (by decide) (Nat.le_of_ble_eq_true rfl) (fun p e s m args below meth c ls C hr hW hl => t_X12_ends_0 C hr va_S.rf hW (hl.keep [true, true, true] rfl) h)
/-! X12_written -/
set_option maxRecDepth 20000 in
set_option maxHeartbeats 4000000 in
theorem t_X12_written_0 {p : Program} {l : Launch} {e : Env} {s : State} {m : MethodId} {args : Array Value} {below : List Frame} {meth : Method} {c : Code} {H : Heap} {locs : List Loc} {D : va_G} {tc : Nat → ClassId} {b0 : Nat} {ls : Array Slot} {G : Lay} {Qx : Mem → Prop} {l0 : Nat} {l1 : Int32} {l2 : Int32} {l3 : Int32}  {σ : Mem} (C : Cx p s m args meth c cX12_written RX12 4 D tc b0) (hr : meth.sig.returnType = (none : Option FieldType)) (hS : va_S (AA b0) s.heap H locs) (hW : Wd G D tc b0 σ H) (hl : hL b0 ls 4 [some (.inr (.inr l0)), some (.inl l1), some (.inl l2), some (.inl l3)]) (h : X_X12_written_0 G Qx l0 l1 l2 l3  σ) : W p l e rm_X12_written s m args below meth c H locs 0 0 (MQ below (va_Qv Qx (fun u t => Pw G D tc b0 u t) (AA b0)) args s 0 0 (AA b0)) (F0 m 0 ls []) := by
  have hx := C.1
  have hb := C.2.1
  unfold X_X12_written_0 at h
  refine x_aload_n C hl dX12_written_0 rfl ?_
  have t1 := h.1
  replace h := h.2
  refine x_get C hW (t := 12) (k := 70) t1 kl_12 (by decide) fl_X12_169 (v := rv b0 (mR σ l0 70)) rfl dX12_written_1 ?_
  refine x_aload_n C hl dX12_written_4 rfl ?_
  refine x_get C hW (t := 12) (k := 69) t1 kl_12 (by decide) fl_X12_437 (v := .int (mI σ l0 69)) rfl dX12_written_5 ?_
  refine x_iload_n C hl dX12_written_8 rfl ?_
  have t2 := h.1
  replace h := h.2
  have v3 := h.1
  replace h := h.2
  refine x_iast C hW hS t2 v3 dX12_written_9 (fun H locs hW hS => ?_)
  obtain ⟨s4, e_s4⟩ : ∃ z : Mem, z = (sI σ (mR σ l0 70) (mI σ l0 69).toNatClampNeg l1) := ⟨_, rfl⟩
  replace h := h s4 e_s4
  replace hW : Wd G D tc b0 s4 H := by rw [e_s4]; exact hW
  refine x_aload_n C hl dX12_written_10 rfl ?_
  refine x_get C hW (t := 12) (k := 71) t1 kl_12 (by decide) fl_X12_172 (v := rv b0 (mR s4 l0 71)) rfl dX12_written_11 ?_
  refine x_aload_n C hl dX12_written_14 rfl ?_
  refine x_get C hW (t := 12) (k := 69) t1 kl_12 (by decide) fl_X12_437 (v := .int (mI s4 l0 69)) rfl dX12_written_15 ?_
  refine x_aload_n C hl dX12_written_18 rfl ?_
  refine x_get C hW (t := 12) (k := 45) t1 kl_12 (by decide) fl_X12_129 (v := rv b0 (mR s4 l0 45)) rfl dX12_written_19 ?_
  refine x_iload_n C hl dX12_written_22 rfl ?_
  have t5 := h.1
  replace h := h.2
  have v6 := h.1
  replace h := h.2
  refine x_iald C hW t5 v6 dX12_written_23 ?_
  have t7 := h.1
  replace h := h.2
  have v8 := h.1
  replace h := h.2
  refine x_iast C hW hS t7 v8 dX12_written_24 (fun H locs hW hS => ?_)
  obtain ⟨s9, e_s9⟩ : ∃ z : Mem, z = (sI s4 (mR s4 l0 71) (mI s4 l0 69).toNatClampNeg (mI s4 (mR s4 l0 45) l2.toNatClampNeg)) := ⟨_, rfl⟩
  replace h := h s9 e_s9
  replace hW : Wd G D tc b0 s9 H := by rw [e_s9]; exact hW
  refine x_aload_n C hl dX12_written_25 rfl ?_
  refine x_get C hW (t := 12) (k := 72) t1 kl_12 (by decide) fl_X12_175 (v := rv b0 (mR s9 l0 72)) rfl dX12_written_26 ?_
  refine x_aload_n C hl dX12_written_29 rfl ?_
  refine x_get C hW (t := 12) (k := 69) t1 kl_12 (by decide) fl_X12_437 (v := .int (mI s9 l0 69)) rfl dX12_written_30 ?_
  refine x_aload_n C hl dX12_written_33 rfl ?_
  refine x_get C hW (t := 12) (k := 44) t1 kl_12 (by decide) fl_X12_126 (v := rv b0 (mR s9 l0 44)) rfl dX12_written_34 ?_
  refine x_iload_n C hl dX12_written_37 rfl ?_
  have t10 := h.1
  replace h := h.2
  have v11 := h.1
  replace h := h.2
  refine x_iald C hW t10 v11 dX12_written_38 ?_
  have t12 := h.1
  replace h := h.2
  have v13 := h.1
  replace h := h.2
  refine x_iast C hW hS t12 v13 dX12_written_39 (fun H locs hW hS => ?_)
  obtain ⟨s14, e_s14⟩ : ∃ z : Mem, z = (sI s9 (mR s9 l0 72) (mI s9 l0 69).toNatClampNeg (mI s9 (mR s9 l0 44) l2.toNatClampNeg)) := ⟨_, rfl⟩
  replace h := h s14 e_s14
  replace hW : Wd G D tc b0 s14 H := by rw [e_s14]; exact hW
  refine x_aload_n C hl dX12_written_40 rfl ?_
  refine x_get C hW (t := 12) (k := 73) t1 kl_12 (by decide) fl_X12_178 (v := rv b0 (mR s14 l0 73)) rfl dX12_written_41 ?_
  refine x_aload_n C hl dX12_written_44 rfl ?_
  refine x_get C hW (t := 12) (k := 69) t1 kl_12 (by decide) fl_X12_437 (v := .int (mI s14 l0 69)) rfl dX12_written_45 ?_
  refine x_iload_n C hl dX12_written_48 rfl ?_
  have t15 := h.1
  replace h := h.2
  have v16 := h.1
  replace h := h.2
  refine x_iast C hW hS t15 v16 dX12_written_49 (fun H locs hW hS => ?_)
  obtain ⟨s17, e_s17⟩ : ∃ z : Mem, z = (sI s14 (mR s14 l0 73) (mI s14 l0 69).toNatClampNeg l3) := ⟨_, rfl⟩
  replace h := h s17 e_s17
  replace hW : Wd G D tc b0 s17 H := by rw [e_s17]; exact hW
  refine x_aload_n C hl dX12_written_50 rfl ?_
  refine lv_dup hx hb dX12_written_51 (rv_cat _ _) ?_
  refine x_get C hW (t := 12) (k := 69) t1 kl_12 (by decide) fl_X12_437 (v := .int (mI s17 l0 69)) rfl dX12_written_52 ?_
  refine lv_iconst (v := (1 : Int32)) hx hb dX12_written_55 (by decide) ?_
  refine lv_iadd hx hb dX12_written_56 ?_
  refine x_putI C hW hS (t := 12) (k := 69) t1 kl_12 (by decide) fl_X12_437 rfl rfl rfl rfl dX12_written_57 (fun H locs hW hS => ?_)
  obtain ⟨s18, e_s18⟩ : ∃ z : Mem, z = (sI s17 l0 69 ((mI s17 l0 69) + (1 : Int32))) := ⟨_, rfl⟩
  replace h := h s18 e_s18
  replace hW : Wd G D tc b0 s18 H := by rw [e_s18]; exact hW
  exact r_v C hr hW hS h dX12_written_60
theorem T_X12_written (l : Launch) {G : Lay} {D : va_G} {tc : Nat → ClassId} {b0 : Nat} (l0 : Nat) (l1 : Int32) (l2 : Int32) (l3 : Int32) (σ : Mem) (Qx : Mem → Prop) (h : X_X12_written G Qx l0 l1 l2 l3 σ) : MV l yX12_written cX12_written 4 ((none : Option FieldType)) rm_X12_written G D tc b0 [rv b0 l0, .int l1, .int l2, .int l3] σ Qx :=
  x_entry (y := yX12_written) [.inr (.inr l0), .inl l1, .inl l2, .inl l3] 0 (by decide) (Nat.le_of_ble_eq_true rfl) (fun p e s m args below meth c ls C hr hW hl => t_X12_written_0 C hr va_S.rf hW (hl.keep [true, true, true, true] rfl) h)
/-! X12_inOrder -/
set_option maxRecDepth 20000 in
set_option maxHeartbeats 4000000 in
theorem t_X12_inOrder_172 {p : Program} {l : Launch} {e : Env} {s : State} {m : MethodId} {args : Array Value} {below : List Frame} {meth : Method} {c : Code} {H : Heap} {locs : List Loc} {D : va_G} {tc : Nat → ClassId} {b0 : Nat} {ls : Array Slot} {G : Lay} {Qx : Mem → Prop} {l0 : Nat} {l1 : Int32} {l2 : Int32} {l3 : Int32} {l4 : Int32} {l5 : Int32} {l6 : Int32} {l8 : Int32}  {K8 : Int32 × Mem → Prop} {K95 : Int32 × Mem → Prop} {σ : Mem} (C : Cx p s m args meth c cX12_inOrder RX12 9 D tc b0) (hr : meth.sig.returnType = (none : Option FieldType)) (hK8 : ∀ (x5 : Int32) (σ : Mem) (H : Heap) (locs : List Loc) (ls : Array Slot), va_S (AA b0) s.heap H locs → Wd G D tc b0 σ H → hL b0 ls 9 [some (.inr (.inr l0)), some (.inl l1), some (.inl l2), some (.inl l3), some (.inl l4), some (.inl x5), none, none, none] → K8 (x5, σ) → W p l e rm_X12_inOrder s m args below meth c H locs 0 0 (MQ below (va_Qv Qx (fun u t => Pw G D tc b0 u t) (AA b0)) args s 0 0 (AA b0)) (F0 m 8 ls [])) (hK95 : ∀ (x8 : Int32) (σ : Mem) (H : Heap) (locs : List Loc) (ls : Array Slot), va_S (AA b0) s.heap H locs → Wd G D tc b0 σ H → hL b0 ls 9 [some (.inr (.inr l0)), some (.inl l1), some (.inl l2), some (.inl l3), some (.inl l4), some (.inl l5), some (.inl l6), none, some (.inl x8)] → K95 (x8, σ) → W p l e rm_X12_inOrder s m args below meth c H locs 0 0 (MQ below (va_Qv Qx (fun u t => Pw G D tc b0 u t) (AA b0)) args s 0 0 (AA b0)) (F0 m 95 ls [])) (hS : va_S (AA b0) s.heap H locs) (hW : Wd G D tc b0 σ H) (hl : hL b0 ls 9 [some (.inr (.inr l0)), some (.inl l1), some (.inl l2), some (.inl l3), some (.inl l4), some (.inl l5), some (.inl l6), none, some (.inl l8)]) (h : X_X12_inOrder_172 G Qx K8 K95 l0 l1 l2 l3 l4 l5 l6 l8  σ) : W p l e rm_X12_inOrder s m args below meth c H locs 0 0 (MQ below (va_Qv Qx (fun u t => Pw G D tc b0 u t) (AA b0)) args s 0 0 (AA b0)) (F0 m 172 ls []) := by
  have hx := C.1
  have hb := C.2.1
  unfold X_X12_inOrder_172 at h
  refine x_aload_n C hl dX12_inOrder_172 rfl ?_
  have t1 := h.1
  replace h := h.2
  refine x_get C hW (t := 12) (k := 74) t1 kl_12 (by decide) fl_X12_181 (v := rv b0 (mR σ l0 74)) rfl dX12_inOrder_173 ?_
  refine x_iload C hl dX12_inOrder_176 rfl ?_
  refine x_aload_n C hl dX12_inOrder_178 rfl ?_
  refine x_get C hW (t := 12) (k := 74) t1 kl_12 (by decide) fl_X12_181 (v := rv b0 (mR σ l0 74)) rfl dX12_inOrder_179 ?_
  refine x_iload C hl dX12_inOrder_182 rfl ?_
  refine lv_iconst (v := (1 : Int32)) hx hb dX12_inOrder_184 (by decide) ?_
  refine lv_isub hx hb dX12_inOrder_185 ?_
  have t2 := h.1
  replace h := h.2
  have v3 := h.1
  replace h := h.2
  refine x_iald C hW t2 v3 dX12_inOrder_186 ?_
  have v4 := h.1
  replace h := h.2
  refine x_iast C hW hS t2 v4 dX12_inOrder_187 (fun H locs hW hS => ?_)
  obtain ⟨s5, e_s5⟩ : ∃ z : Mem, z = (sI σ (mR σ l0 74) l8.toNatClampNeg (mI σ (mR σ l0 74) (l8 - (1 : Int32)).toNatClampNeg)) := ⟨_, rfl⟩
  replace h := h s5 e_s5
  replace hW : Wd G D tc b0 s5 H := by rw [e_s5]; exact hW
  refine x_iinc C hl dX12_inOrder_188 rfl (v := (-1 : Int32)) (by decide) (by decide) rfl (fun ls hl => ?_)
  refine lv_goto hx hb dX12_inOrder_191 (tgt := 95) rfl ?_
  exact hK95 _ _ _ _ _ hS hW (hl.keep [true, true, true, true, true, true, true, false, true] rfl) h
set_option maxRecDepth 20000 in
set_option maxHeartbeats 4000000 in
theorem t_X12_inOrder_213 {p : Program} {l : Launch} {e : Env} {s : State} {m : MethodId} {args : Array Value} {below : List Frame} {meth : Method} {c : Code} {H : Heap} {locs : List Loc} {D : va_G} {tc : Nat → ClassId} {b0 : Nat} {ls : Array Slot} {G : Lay} {Qx : Mem → Prop} {l0 : Nat} {l1 : Int32} {l2 : Int32} {l3 : Int32} {l4 : Int32} {l5 : Int32}  {K8 : Int32 × Mem → Prop} {σ : Mem} (C : Cx p s m args meth c cX12_inOrder RX12 9 D tc b0) (hr : meth.sig.returnType = (none : Option FieldType)) (hK8 : ∀ (x5 : Int32) (σ : Mem) (H : Heap) (locs : List Loc) (ls : Array Slot), va_S (AA b0) s.heap H locs → Wd G D tc b0 σ H → hL b0 ls 9 [some (.inr (.inr l0)), some (.inl l1), some (.inl l2), some (.inl l3), some (.inl l4), some (.inl x5), none, none, none] → K8 (x5, σ) → W p l e rm_X12_inOrder s m args below meth c H locs 0 0 (MQ below (va_Qv Qx (fun u t => Pw G D tc b0 u t) (AA b0)) args s 0 0 (AA b0)) (F0 m 8 ls [])) (hS : va_S (AA b0) s.heap H locs) (hW : Wd G D tc b0 σ H) (hl : hL b0 ls 9 [some (.inr (.inr l0)), some (.inl l1), some (.inl l2), some (.inl l3), some (.inl l4), some (.inl l5), none, none, none]) (h : X_X12_inOrder_213 G Qx K8 l0 l1 l2 l3 l4 l5  σ) : W p l e rm_X12_inOrder s m args below meth c H locs 0 0 (MQ below (va_Qv Qx (fun u t => Pw G D tc b0 u t) (AA b0)) args s 0 0 (AA b0)) (F0 m 213 ls []) := by
  have hx := C.1
  have hb := C.2.1
  unfold X_X12_inOrder_213 at h
  refine x_iinc C hl dX12_inOrder_213 rfl (v := (1 : Int32)) (by decide) (by decide) rfl (fun ls hl => ?_)
  refine lv_goto hx hb dX12_inOrder_216 (tgt := 8) rfl ?_
  exact hK8 _ _ _ _ _ hS hW (hl.keep [true, true, true, true, true, true, false, false, false] rfl) h
set_option maxRecDepth 20000 in
set_option maxHeartbeats 4000000 in
theorem t_X12_inOrder_194 {p : Program} {l : Launch} {e : Env} {s : State} {m : MethodId} {args : Array Value} {below : List Frame} {meth : Method} {c : Code} {H : Heap} {locs : List Loc} {D : va_G} {tc : Nat → ClassId} {b0 : Nat} {ls : Array Slot} {G : Lay} {Qx : Mem → Prop} {l0 : Nat} {l1 : Int32} {l2 : Int32} {l3 : Int32} {l4 : Int32} {l5 : Int32} {l6 : Int32} {l8 : Int32}  {K8 : Int32 × Mem → Prop} {σ : Mem} (C : Cx p s m args meth c cX12_inOrder RX12 9 D tc b0) (hr : meth.sig.returnType = (none : Option FieldType)) (hK8 : ∀ (x5 : Int32) (σ : Mem) (H : Heap) (locs : List Loc) (ls : Array Slot), va_S (AA b0) s.heap H locs → Wd G D tc b0 σ H → hL b0 ls 9 [some (.inr (.inr l0)), some (.inl l1), some (.inl l2), some (.inl l3), some (.inl l4), some (.inl x5), none, none, none] → K8 (x5, σ) → W p l e rm_X12_inOrder s m args below meth c H locs 0 0 (MQ below (va_Qv Qx (fun u t => Pw G D tc b0 u t) (AA b0)) args s 0 0 (AA b0)) (F0 m 8 ls [])) (hS : va_S (AA b0) s.heap H locs) (hW : Wd G D tc b0 σ H) (hl : hL b0 ls 9 [some (.inr (.inr l0)), some (.inl l1), some (.inl l2), some (.inl l3), some (.inl l4), some (.inl l5), some (.inl l6), none, some (.inl l8)]) (h : X_X12_inOrder_194 G Qx K8 l0 l1 l2 l3 l4 l5 l6 l8  σ) : W p l e rm_X12_inOrder s m args below meth c H locs 0 0 (MQ below (va_Qv Qx (fun u t => Pw G D tc b0 u t) (AA b0)) args s 0 0 (AA b0)) (F0 m 194 ls []) := by
  have hx := C.1
  have hb := C.2.1
  unfold X_X12_inOrder_194 at h
  refine x_aload_n C hl dX12_inOrder_194 rfl ?_
  have t1 := h.1
  replace h := h.2
  refine x_get C hW (t := 12) (k := 74) t1 kl_12 (by decide) fl_X12_181 (v := rv b0 (mR σ l0 74)) rfl dX12_inOrder_195 ?_
  refine x_iload C hl dX12_inOrder_198 rfl ?_
  refine x_iload C hl dX12_inOrder_200 rfl ?_
  have t2 := h.1
  replace h := h.2
  have v3 := h.1
  replace h := h.2
  refine x_iast C hW hS t2 v3 dX12_inOrder_202 (fun H locs hW hS => ?_)
  obtain ⟨s4, e_s4⟩ : ∃ z : Mem, z = (sI σ (mR σ l0 74) l8.toNatClampNeg l6) := ⟨_, rfl⟩
  replace h := h s4 e_s4
  replace hW : Wd G D tc b0 s4 H := by rw [e_s4]; exact hW
  refine x_aload_n C hl dX12_inOrder_203 rfl ?_
  refine lv_dup hx hb dX12_inOrder_204 (rv_cat _ _) ?_
  refine x_get C hW (t := 12) (k := 75) t1 kl_12 (by decide) fl_X12_440 (v := .int (mI s4 l0 75)) rfl dX12_inOrder_205 ?_
  refine lv_iconst (v := (1 : Int32)) hx hb dX12_inOrder_208 (by decide) ?_
  refine lv_iadd hx hb dX12_inOrder_209 ?_
  refine x_putI C hW hS (t := 12) (k := 75) t1 kl_12 (by decide) fl_X12_440 rfl rfl rfl rfl dX12_inOrder_210 (fun H locs hW hS => ?_)
  obtain ⟨s5, e_s5⟩ : ∃ z : Mem, z = (sI s4 l0 75 ((mI s4 l0 75) + (1 : Int32))) := ⟨_, rfl⟩
  replace h := h s5 e_s5
  replace hW : Wd G D tc b0 s5 H := by rw [e_s5]; exact hW
  exact t_X12_inOrder_213 C hr hK8 hS hW (hl.keep [true, true, true, true, true, true, false, false, false] rfl) h
set_option maxRecDepth 20000 in
set_option maxHeartbeats 4000000 in
theorem t_X12_inOrder_95_n {p : Program} {l : Launch} {e : Env} {s : State} {m : MethodId} {args : Array Value} {below : List Frame} {meth : Method} {c : Code} {D : va_G} {tc : Nat → ClassId} {b0 : Nat} {G : Lay} {Qx : Mem → Prop} {l0 : Nat} {l1 : Int32} {l2 : Int32} {l3 : Int32} {l4 : Int32} {l5 : Int32} {l6 : Int32} {K8 : Int32 × Mem → Prop} (C : Cx p s m args meth c cX12_inOrder RX12 9 D tc b0) (hr : meth.sig.returnType = (none : Option FieldType)) (hK8 : ∀ (x5 : Int32) (σ : Mem) (H : Heap) (locs : List Loc) (ls : Array Slot), va_S (AA b0) s.heap H locs → Wd G D tc b0 σ H → hL b0 ls 9 [some (.inr (.inr l0)), some (.inl l1), some (.inl l2), some (.inl l3), some (.inl l4), some (.inl x5), none, none, none] → K8 (x5, σ) → W p l e rm_X12_inOrder s m args below meth c H locs 0 0 (MQ below (va_Qv Qx (fun u t => Pw G D tc b0 u t) (AA b0)) args s 0 0 (AA b0)) (F0 m 8 ls [])) (n : Nat) : ∀ (l8 : Int32) (σ : Mem) (H : Heap) (locs : List Loc) (ls : Array Slot), va_S (AA b0) s.heap H locs → Wd G D tc b0 σ H → hL b0 ls 9 [some (.inr (.inr l0)), some (.inl l1), some (.inl l2), some (.inl l3), some (.inl l4), some (.inl l5), some (.inl l6), none, some (.inl l8)] → Lp (X_X12_inOrder_95_s G Qx K8 l0 l1 l2 l3 l4 l5 l6) n (l8, σ) → W p l e rm_X12_inOrder s m args below meth c H locs 0 0 (MQ below (va_Qv Qx (fun u t => Pw G D tc b0 u t) (AA b0)) args s 0 0 (AA b0)) (F0 m 95 ls []) := by
  have hx := C.1
  have hb := C.2.1
  induction n with
  | zero => intro l8 σ H locs ls hS hW hl h; exact False.elim h
  | succ n hK95 =>
    intro l8 σ H locs ls hS hW hl h
    replace h : X_X12_inOrder_95_s G Qx K8 l0 l1 l2 l3 l4 l5 l6 (Lp (X_X12_inOrder_95_s G Qx K8 l0 l1 l2 l3 l4 l5 l6) n) (l8, σ) := h
    unfold X_X12_inOrder_95_s at h
    refine x_iload C hl dX12_inOrder_95 rfl ?_
    refine lv_if_le hx hb dX12_inOrder_97 (tgt := 194) rfl (fun hc => ?_) (fun hc => ?_)
    · replace h := h.1 hc
      exact t_X12_inOrder_194 C hr hK8 hS hW (hl.keep [true, true, true, true, true, true, true, false, true] rfl) h
    · replace h := h.2 hc
      refine x_aload_n C hl dX12_inOrder_100 rfl ?_
      have t1 := h.1
      replace h := h.2
      refine x_get C hW (t := 12) (k := 45) t1 kl_12 (by decide) fl_X12_129 (v := rv b0 (mR σ l0 45)) rfl dX12_inOrder_101 ?_
      refine x_aload_n C hl dX12_inOrder_104 rfl ?_
      refine x_get C hW (t := 12) (k := 74) t1 kl_12 (by decide) fl_X12_181 (v := rv b0 (mR σ l0 74)) rfl dX12_inOrder_105 ?_
      refine x_iload C hl dX12_inOrder_108 rfl ?_
      refine lv_iconst (v := (1 : Int32)) hx hb dX12_inOrder_110 (by decide) ?_
      refine lv_isub hx hb dX12_inOrder_111 ?_
      have t2 := h.1
      replace h := h.2
      have v3 := h.1
      replace h := h.2
      refine x_iald C hW t2 v3 dX12_inOrder_112 ?_
      have t4 := h.1
      replace h := h.2
      have v5 := h.1
      replace h := h.2
      refine x_iald C hW t4 v5 dX12_inOrder_113 ?_
      refine x_aload_n C hl dX12_inOrder_114 rfl ?_
      refine x_get C hW (t := 12) (k := 45) t1 kl_12 (by decide) fl_X12_129 (v := rv b0 (mR σ l0 45)) rfl dX12_inOrder_115 ?_
      refine x_iload C hl dX12_inOrder_118 rfl ?_
      have v6 := h.1
      replace h := h.2
      refine x_iald C hW t4 v6 dX12_inOrder_120 ?_
      refine lv_icmp_gt hx hb dX12_inOrder_121 (tgt := 172) rfl (fun hc => ?_) (fun hc => ?_)
      · replace h := h.1 hc
        exact t_X12_inOrder_172 C hr hK8 hK95 hS hW (hl.keep [true, true, true, true, true, true, true, false, true] rfl) h
      · replace h := h.2 hc
        refine x_aload_n C hl dX12_inOrder_124 rfl ?_
        refine x_get C hW (t := 12) (k := 45) t1 kl_12 (by decide) fl_X12_129 (v := rv b0 (mR σ l0 45)) rfl dX12_inOrder_125 ?_
        refine x_aload_n C hl dX12_inOrder_128 rfl ?_
        refine x_get C hW (t := 12) (k := 74) t1 kl_12 (by decide) fl_X12_181 (v := rv b0 (mR σ l0 74)) rfl dX12_inOrder_129 ?_
        refine x_iload C hl dX12_inOrder_132 rfl ?_
        refine lv_iconst (v := (1 : Int32)) hx hb dX12_inOrder_134 (by decide) ?_
        refine lv_isub hx hb dX12_inOrder_135 ?_
        refine x_iald C hW t2 v3 dX12_inOrder_136 ?_
        refine x_iald C hW t4 v5 dX12_inOrder_137 ?_
        refine x_aload_n C hl dX12_inOrder_138 rfl ?_
        refine x_get C hW (t := 12) (k := 45) t1 kl_12 (by decide) fl_X12_129 (v := rv b0 (mR σ l0 45)) rfl dX12_inOrder_139 ?_
        refine x_iload C hl dX12_inOrder_142 rfl ?_
        refine x_iald C hW t4 v6 dX12_inOrder_144 ?_
        refine lv_icmp_ne hx hb dX12_inOrder_145 (tgt := 194) rfl (fun hc => ?_) (fun hc => ?_)
        · replace h := h.2 hc
          exact t_X12_inOrder_194 C hr hK8 hS hW (hl.keep [true, true, true, true, true, true, true, false, true] rfl) h
        · replace h := h.1 hc
          refine x_aload_n C hl dX12_inOrder_148 rfl ?_
          refine x_get C hW (t := 12) (k := 44) t1 kl_12 (by decide) fl_X12_126 (v := rv b0 (mR σ l0 44)) rfl dX12_inOrder_149 ?_
          refine x_aload_n C hl dX12_inOrder_152 rfl ?_
          refine x_get C hW (t := 12) (k := 74) t1 kl_12 (by decide) fl_X12_181 (v := rv b0 (mR σ l0 74)) rfl dX12_inOrder_153 ?_
          refine x_iload C hl dX12_inOrder_156 rfl ?_
          refine lv_iconst (v := (1 : Int32)) hx hb dX12_inOrder_158 (by decide) ?_
          refine lv_isub hx hb dX12_inOrder_159 ?_
          refine x_iald C hW t2 v3 dX12_inOrder_160 ?_
          have t7 := h.1
          replace h := h.2
          have v8 := h.1
          replace h := h.2
          refine x_iald C hW t7 v8 dX12_inOrder_161 ?_
          refine x_aload_n C hl dX12_inOrder_162 rfl ?_
          refine x_get C hW (t := 12) (k := 44) t1 kl_12 (by decide) fl_X12_126 (v := rv b0 (mR σ l0 44)) rfl dX12_inOrder_163 ?_
          refine x_iload C hl dX12_inOrder_166 rfl ?_
          have v9 := h.1
          replace h := h.2
          refine x_iald C hW t7 v9 dX12_inOrder_168 ?_
          refine lv_icmp_le hx hb dX12_inOrder_169 (tgt := 194) rfl (fun hc => ?_) (fun hc => ?_)
          · replace h := h.1 hc
            exact t_X12_inOrder_194 C hr hK8 hS hW (hl.keep [true, true, true, true, true, true, true, false, true] rfl) h
          · replace h := h.2 hc
            exact t_X12_inOrder_172 C hr hK8 hK95 hS hW (hl.keep [true, true, true, true, true, true, true, false, true] rfl) h
set_option maxRecDepth 20000 in
set_option maxHeartbeats 4000000 in
theorem t_X12_inOrder_95 {p : Program} {l : Launch} {e : Env} {s : State} {m : MethodId} {args : Array Value} {below : List Frame} {meth : Method} {c : Code} {H : Heap} {locs : List Loc} {D : va_G} {tc : Nat → ClassId} {b0 : Nat} {ls : Array Slot} {G : Lay} {Qx : Mem → Prop} {l0 : Nat} {l1 : Int32} {l2 : Int32} {l3 : Int32} {l4 : Int32} {l5 : Int32} {l6 : Int32} {l8 : Int32}  {K8 : Int32 × Mem → Prop} {σ : Mem} (C : Cx p s m args meth c cX12_inOrder RX12 9 D tc b0) (hr : meth.sig.returnType = (none : Option FieldType)) (hK8 : ∀ (x5 : Int32) (σ : Mem) (H : Heap) (locs : List Loc) (ls : Array Slot), va_S (AA b0) s.heap H locs → Wd G D tc b0 σ H → hL b0 ls 9 [some (.inr (.inr l0)), some (.inl l1), some (.inl l2), some (.inl l3), some (.inl l4), some (.inl x5), none, none, none] → K8 (x5, σ) → W p l e rm_X12_inOrder s m args below meth c H locs 0 0 (MQ below (va_Qv Qx (fun u t => Pw G D tc b0 u t) (AA b0)) args s 0 0 (AA b0)) (F0 m 8 ls [])) (hS : va_S (AA b0) s.heap H locs) (hW : Wd G D tc b0 σ H) (hl : hL b0 ls 9 [some (.inr (.inr l0)), some (.inl l1), some (.inl l2), some (.inl l3), some (.inl l4), some (.inl l5), some (.inl l6), none, some (.inl l8)]) (h : X_X12_inOrder_95 G Qx K8 l0 l1 l2 l3 l4 l5 l6 l8 σ) : W p l e rm_X12_inOrder s m args below meth c H locs 0 0 (MQ below (va_Qv Qx (fun u t => Pw G D tc b0 u t) (AA b0)) args s 0 0 (AA b0)) (F0 m 95 ls []) := by
  obtain ⟨n, h⟩ := h
  exact t_X12_inOrder_95_n C hr hK8 n l8 σ H locs ls hS hW hl h
set_option maxRecDepth 20000 in
set_option maxHeartbeats 4000000 in
theorem t_X12_inOrder_79 {p : Program} {l : Launch} {e : Env} {s : State} {m : MethodId} {args : Array Value} {below : List Frame} {meth : Method} {c : Code} {H : Heap} {locs : List Loc} {D : va_G} {tc : Nat → ClassId} {b0 : Nat} {ls : Array Slot} {G : Lay} {Qx : Mem → Prop} {l0 : Nat} {l1 : Int32} {l2 : Int32} {l3 : Int32} {l4 : Int32} {l5 : Int32} {l6 : Int32} {k0 : Int32} {K8 : Int32 × Mem → Prop} {σ : Mem} (C : Cx p s m args meth c cX12_inOrder RX12 9 D tc b0) (hr : meth.sig.returnType = (none : Option FieldType)) (hK8 : ∀ (x5 : Int32) (σ : Mem) (H : Heap) (locs : List Loc) (ls : Array Slot), va_S (AA b0) s.heap H locs → Wd G D tc b0 σ H → hL b0 ls 9 [some (.inr (.inr l0)), some (.inl l1), some (.inl l2), some (.inl l3), some (.inl l4), some (.inl x5), none, none, none] → K8 (x5, σ) → W p l e rm_X12_inOrder s m args below meth c H locs 0 0 (MQ below (va_Qv Qx (fun u t => Pw G D tc b0 u t) (AA b0)) args s 0 0 (AA b0)) (F0 m 8 ls [])) (hS : va_S (AA b0) s.heap H locs) (hW : Wd G D tc b0 σ H) (hl : hL b0 ls 9 [some (.inr (.inr l0)), some (.inl l1), some (.inl l2), some (.inl l3), some (.inl l4), some (.inl l5), some (.inl l6), none, none]) (h : X_X12_inOrder_79 G Qx K8 l0 l1 l2 l3 l4 l5 l6 k0 σ) : W p l e rm_X12_inOrder s m args below meth c H locs 0 0 (MQ below (va_Qv Qx (fun u t => Pw G D tc b0 u t) (AA b0)) args s 0 0 (AA b0)) (F0 m 79 ls [.int k0]) := by
  have hx := C.1
  have hb := C.2.1
  unfold X_X12_inOrder_79 at h
  refine x_istore C hl dX12_inOrder_79 (by decide) rfl (fun ls hl => ?_)
  refine x_iload C hl dX12_inOrder_81 rfl ?_
  refine lv_if_ne hx hb dX12_inOrder_83 (tgt := 89) rfl (fun hc => ?_) (fun hc => ?_)
  · replace h := h.2 hc
    refine x_aload_n C hl dX12_inOrder_89 rfl ?_
    have t1 := h.1
    replace h := h.2
    refine x_get C hW (t := 12) (k := 75) t1 kl_12 (by decide) fl_X12_440 (v := .int (mI σ l0 75)) rfl dX12_inOrder_90 ?_
    refine x_istore C hl dX12_inOrder_93 (by decide) rfl (fun ls hl => ?_)
    exact t_X12_inOrder_95 C hr hK8 hS hW (hl.keep [true, true, true, true, true, true, true, false, true] rfl) h
  · replace h := h.1 hc
    refine lv_goto hx hb dX12_inOrder_86 (tgt := 213) rfl ?_
    exact t_X12_inOrder_213 C hr hK8 hS hW (hl.keep [true, true, true, true, true, true, false, false, false] rfl) h
set_option maxRecDepth 20000 in
set_option maxHeartbeats 4000000 in
theorem t_X12_inOrder_74 {p : Program} {l : Launch} {e : Env} {s : State} {m : MethodId} {args : Array Value} {below : List Frame} {meth : Method} {c : Code} {H : Heap} {locs : List Loc} {D : va_G} {tc : Nat → ClassId} {b0 : Nat} {ls : Array Slot} {G : Lay} {Qx : Mem → Prop} {l0 : Nat} {l1 : Int32} {l2 : Int32} {l3 : Int32} {l4 : Int32} {l5 : Int32} {l6 : Int32}  {K8 : Int32 × Mem → Prop} {σ : Mem} (C : Cx p s m args meth c cX12_inOrder RX12 9 D tc b0) (hr : meth.sig.returnType = (none : Option FieldType)) (hK8 : ∀ (x5 : Int32) (σ : Mem) (H : Heap) (locs : List Loc) (ls : Array Slot), va_S (AA b0) s.heap H locs → Wd G D tc b0 σ H → hL b0 ls 9 [some (.inr (.inr l0)), some (.inl l1), some (.inl l2), some (.inl l3), some (.inl l4), some (.inl x5), none, none, none] → K8 (x5, σ) → W p l e rm_X12_inOrder s m args below meth c H locs 0 0 (MQ below (va_Qv Qx (fun u t => Pw G D tc b0 u t) (AA b0)) args s 0 0 (AA b0)) (F0 m 8 ls [])) (hS : va_S (AA b0) s.heap H locs) (hW : Wd G D tc b0 σ H) (hl : hL b0 ls 9 [some (.inr (.inr l0)), some (.inl l1), some (.inl l2), some (.inl l3), some (.inl l4), some (.inl l5), some (.inl l6), none, none]) (h : X_X12_inOrder_74 G Qx K8 l0 l1 l2 l3 l4 l5 l6  σ) : W p l e rm_X12_inOrder s m args below meth c H locs 0 0 (MQ below (va_Qv Qx (fun u t => Pw G D tc b0 u t) (AA b0)) args s 0 0 (AA b0)) (F0 m 74 ls []) := by
  have hx := C.1
  have hb := C.2.1
  unfold X_X12_inOrder_74 at h
  refine lv_iconst (v := (1 : Int32)) hx hb dX12_inOrder_74 (by decide) ?_
  refine lv_goto hx hb dX12_inOrder_75 (tgt := 79) rfl ?_
  exact t_X12_inOrder_79 C hr hK8 hS hW (hl.keep [true, true, true, true, true, true, true, false, false] rfl) h
set_option maxRecDepth 20000 in
set_option maxHeartbeats 4000000 in
theorem t_X12_inOrder_78 {p : Program} {l : Launch} {e : Env} {s : State} {m : MethodId} {args : Array Value} {below : List Frame} {meth : Method} {c : Code} {H : Heap} {locs : List Loc} {D : va_G} {tc : Nat → ClassId} {b0 : Nat} {ls : Array Slot} {G : Lay} {Qx : Mem → Prop} {l0 : Nat} {l1 : Int32} {l2 : Int32} {l3 : Int32} {l4 : Int32} {l5 : Int32} {l6 : Int32}  {K8 : Int32 × Mem → Prop} {σ : Mem} (C : Cx p s m args meth c cX12_inOrder RX12 9 D tc b0) (hr : meth.sig.returnType = (none : Option FieldType)) (hK8 : ∀ (x5 : Int32) (σ : Mem) (H : Heap) (locs : List Loc) (ls : Array Slot), va_S (AA b0) s.heap H locs → Wd G D tc b0 σ H → hL b0 ls 9 [some (.inr (.inr l0)), some (.inl l1), some (.inl l2), some (.inl l3), some (.inl l4), some (.inl x5), none, none, none] → K8 (x5, σ) → W p l e rm_X12_inOrder s m args below meth c H locs 0 0 (MQ below (va_Qv Qx (fun u t => Pw G D tc b0 u t) (AA b0)) args s 0 0 (AA b0)) (F0 m 8 ls [])) (hS : va_S (AA b0) s.heap H locs) (hW : Wd G D tc b0 σ H) (hl : hL b0 ls 9 [some (.inr (.inr l0)), some (.inl l1), some (.inl l2), some (.inl l3), some (.inl l4), some (.inl l5), some (.inl l6), none, none]) (h : X_X12_inOrder_78 G Qx K8 l0 l1 l2 l3 l4 l5 l6  σ) : W p l e rm_X12_inOrder s m args below meth c H locs 0 0 (MQ below (va_Qv Qx (fun u t => Pw G D tc b0 u t) (AA b0)) args s 0 0 (AA b0)) (F0 m 78 ls []) := by
  have hx := C.1
  have hb := C.2.1
  unfold X_X12_inOrder_78 at h
  refine lv_iconst (v := (0 : Int32)) hx hb dX12_inOrder_78 (by decide) ?_
  exact t_X12_inOrder_79 C hr hK8 hS hW (hl.keep [true, true, true, true, true, true, true, false, false] rfl) h
set_option maxRecDepth 20000 in
set_option maxHeartbeats 4000000 in
theorem t_X12_inOrder_58 {p : Program} {l : Launch} {e : Env} {s : State} {m : MethodId} {args : Array Value} {below : List Frame} {meth : Method} {c : Code} {H : Heap} {locs : List Loc} {D : va_G} {tc : Nat → ClassId} {b0 : Nat} {ls : Array Slot} {G : Lay} {Qx : Mem → Prop} {l0 : Nat} {l1 : Int32} {l2 : Int32} {l3 : Int32} {l4 : Int32} {l5 : Int32} {l6 : Int32}  {K8 : Int32 × Mem → Prop} {σ : Mem} (C : Cx p s m args meth c cX12_inOrder RX12 9 D tc b0) (hr : meth.sig.returnType = (none : Option FieldType)) (hK8 : ∀ (x5 : Int32) (σ : Mem) (H : Heap) (locs : List Loc) (ls : Array Slot), va_S (AA b0) s.heap H locs → Wd G D tc b0 σ H → hL b0 ls 9 [some (.inr (.inr l0)), some (.inl l1), some (.inl l2), some (.inl l3), some (.inl l4), some (.inl x5), none, none, none] → K8 (x5, σ) → W p l e rm_X12_inOrder s m args below meth c H locs 0 0 (MQ below (va_Qv Qx (fun u t => Pw G D tc b0 u t) (AA b0)) args s 0 0 (AA b0)) (F0 m 8 ls [])) (hS : va_S (AA b0) s.heap H locs) (hW : Wd G D tc b0 σ H) (hl : hL b0 ls 9 [some (.inr (.inr l0)), some (.inl l1), some (.inl l2), some (.inl l3), some (.inl l4), some (.inl l5), some (.inl l6), none, none]) (h : X_X12_inOrder_58 G Qx K8 l0 l1 l2 l3 l4 l5 l6  σ) : W p l e rm_X12_inOrder s m args below meth c H locs 0 0 (MQ below (va_Qv Qx (fun u t => Pw G D tc b0 u t) (AA b0)) args s 0 0 (AA b0)) (F0 m 58 ls []) := by
  have hx := C.1
  have hb := C.2.1
  unfold X_X12_inOrder_58 at h
  refine x_iload C hl dX12_inOrder_58 rfl ?_
  refine lv_if_eq hx hb dX12_inOrder_60 (tgt := 78) rfl (fun hc => ?_) (fun hc => ?_)
  · replace h := h.1 hc
    exact t_X12_inOrder_78 C hr hK8 hS hW (hl.keep [true, true, true, true, true, true, true, false, false] rfl) h
  · replace h := h.2 hc
    refine x_aload_n C hl dX12_inOrder_63 rfl ?_
    have t1 := h.1
    replace h := h.2
    refine x_get C hW (t := 12) (k := 42) t1 kl_12 (by decide) fl_X12_120 (v := rv b0 (mR σ l0 42)) rfl dX12_inOrder_64 ?_
    refine x_iload C hl dX12_inOrder_67 rfl ?_
    have t2 := h.1
    replace h := h.2
    have v3 := h.1
    replace h := h.2
    refine x_iald C hW t2 v3 dX12_inOrder_69 ?_
    refine lv_iconst (v := (3 : Int32)) hx hb dX12_inOrder_70 (by decide) ?_
    refine lv_icmp_ne hx hb dX12_inOrder_71 (tgt := 78) rfl (fun hc => ?_) (fun hc => ?_)
    · replace h := h.2 hc
      exact t_X12_inOrder_78 C hr hK8 hS hW (hl.keep [true, true, true, true, true, true, true, false, false] rfl) h
    · replace h := h.1 hc
      exact t_X12_inOrder_74 C hr hK8 hS hW (hl.keep [true, true, true, true, true, true, true, false, false] rfl) h
set_option maxRecDepth 20000 in
set_option maxHeartbeats 4000000 in
theorem t_X12_inOrder_43 {p : Program} {l : Launch} {e : Env} {s : State} {m : MethodId} {args : Array Value} {below : List Frame} {meth : Method} {c : Code} {H : Heap} {locs : List Loc} {D : va_G} {tc : Nat → ClassId} {b0 : Nat} {ls : Array Slot} {G : Lay} {Qx : Mem → Prop} {l0 : Nat} {l1 : Int32} {l2 : Int32} {l3 : Int32} {l4 : Int32} {l5 : Int32} {l6 : Int32}  {K8 : Int32 × Mem → Prop} {σ : Mem} (C : Cx p s m args meth c cX12_inOrder RX12 9 D tc b0) (hr : meth.sig.returnType = (none : Option FieldType)) (hK8 : ∀ (x5 : Int32) (σ : Mem) (H : Heap) (locs : List Loc) (ls : Array Slot), va_S (AA b0) s.heap H locs → Wd G D tc b0 σ H → hL b0 ls 9 [some (.inr (.inr l0)), some (.inl l1), some (.inl l2), some (.inl l3), some (.inl l4), some (.inl x5), none, none, none] → K8 (x5, σ) → W p l e rm_X12_inOrder s m args below meth c H locs 0 0 (MQ below (va_Qv Qx (fun u t => Pw G D tc b0 u t) (AA b0)) args s 0 0 (AA b0)) (F0 m 8 ls [])) (hS : va_S (AA b0) s.heap H locs) (hW : Wd G D tc b0 σ H) (hl : hL b0 ls 9 [some (.inr (.inr l0)), some (.inl l1), some (.inl l2), some (.inl l3), some (.inl l4), some (.inl l5), some (.inl l6), none, none]) (h : X_X12_inOrder_43 G Qx K8 l0 l1 l2 l3 l4 l5 l6  σ) : W p l e rm_X12_inOrder s m args below meth c H locs 0 0 (MQ below (va_Qv Qx (fun u t => Pw G D tc b0 u t) (AA b0)) args s 0 0 (AA b0)) (F0 m 43 ls []) := by
  have hx := C.1
  have hb := C.2.1
  unfold X_X12_inOrder_43 at h
  refine x_iload_n C hl dX12_inOrder_43 rfl ?_
  refine lv_if_eq hx hb dX12_inOrder_44 (tgt := 58) rfl (fun hc => ?_) (fun hc => ?_)
  · replace h := h.1 hc
    exact t_X12_inOrder_58 C hr hK8 hS hW (hl.keep [true, true, true, true, true, true, true, false, false] rfl) h
  · replace h := h.2 hc
    refine x_aload_n C hl dX12_inOrder_47 rfl ?_
    have t1 := h.1
    replace h := h.2
    refine x_get C hW (t := 12) (k := 42) t1 kl_12 (by decide) fl_X12_120 (v := rv b0 (mR σ l0 42)) rfl dX12_inOrder_48 ?_
    refine x_iload C hl dX12_inOrder_51 rfl ?_
    have t2 := h.1
    replace h := h.2
    have v3 := h.1
    replace h := h.2
    refine x_iald C hW t2 v3 dX12_inOrder_53 ?_
    refine lv_iconst (v := (1 : Int32)) hx hb dX12_inOrder_54 (by decide) ?_
    refine lv_icmp_eq hx hb dX12_inOrder_55 (tgt := 74) rfl (fun hc => ?_) (fun hc => ?_)
    · replace h := h.1 hc
      exact t_X12_inOrder_74 C hr hK8 hS hW (hl.keep [true, true, true, true, true, true, true, false, false] rfl) h
    · replace h := h.2 hc
      exact t_X12_inOrder_58 C hr hK8 hS hW (hl.keep [true, true, true, true, true, true, true, false, false] rfl) h
set_option maxRecDepth 20000 in
set_option maxHeartbeats 4000000 in
theorem t_X12_inOrder_8_n {p : Program} {l : Launch} {e : Env} {s : State} {m : MethodId} {args : Array Value} {below : List Frame} {meth : Method} {c : Code} {D : va_G} {tc : Nat → ClassId} {b0 : Nat} {G : Lay} {Qx : Mem → Prop} {l0 : Nat} {l1 : Int32} {l2 : Int32} {l3 : Int32} {l4 : Int32} (C : Cx p s m args meth c cX12_inOrder RX12 9 D tc b0) (hr : meth.sig.returnType = (none : Option FieldType)) (n : Nat) : ∀ (l5 : Int32) (σ : Mem) (H : Heap) (locs : List Loc) (ls : Array Slot), va_S (AA b0) s.heap H locs → Wd G D tc b0 σ H → hL b0 ls 9 [some (.inr (.inr l0)), some (.inl l1), some (.inl l2), some (.inl l3), some (.inl l4), some (.inl l5), none, none, none] → Lp (X_X12_inOrder_8_s G Qx l0 l1 l2 l3 l4) n (l5, σ) → W p l e rm_X12_inOrder s m args below meth c H locs 0 0 (MQ below (va_Qv Qx (fun u t => Pw G D tc b0 u t) (AA b0)) args s 0 0 (AA b0)) (F0 m 8 ls []) := by
  have hx := C.1
  have hb := C.2.1
  induction n with
  | zero => intro l5 σ H locs ls hS hW hl h; exact False.elim h
  | succ n hK8 =>
    intro l5 σ H locs ls hS hW hl h
    replace h : X_X12_inOrder_8_s G Qx l0 l1 l2 l3 l4 (Lp (X_X12_inOrder_8_s G Qx l0 l1 l2 l3 l4) n) (l5, σ) := h
    unfold X_X12_inOrder_8_s at h
    refine x_iload C hl dX12_inOrder_8 rfl ?_
    refine x_aload_n C hl dX12_inOrder_10 rfl ?_
    have t1 := h.1
    replace h := h.2
    refine x_get C hW (t := 12) (k := 40) t1 kl_12 (by decide) fl_X12_114 (v := rv b0 (mR σ l0 40)) rfl dX12_inOrder_11 ?_
    refine x_iload_n C hl dX12_inOrder_14 rfl ?_
    have t2 := h.1
    replace h := h.2
    have v3 := h.1
    replace h := h.2
    refine x_iald C hW t2 v3 dX12_inOrder_15 ?_
    refine lv_icmp_ge hx hb dX12_inOrder_16 (tgt := 219) rfl (fun hc => ?_) (fun hc => ?_)
    · replace h := h.1 hc
      exact r_v C hr hW hS h dX12_inOrder_219
    · replace h := h.2 hc
      refine lv_bipush (v := (60 : Int32)) hx hb dX12_inOrder_19 (by decide) ?_
      refine x_iload_n C hl dX12_inOrder_21 rfl ?_
      refine lv_imul hx hb dX12_inOrder_22 ?_
      refine x_iload C hl dX12_inOrder_23 rfl ?_
      refine lv_iadd hx hb dX12_inOrder_25 ?_
      refine x_istore C hl dX12_inOrder_26 (by decide) rfl (fun ls hl => ?_)
      refine x_iload_n C hl dX12_inOrder_28 rfl ?_
      refine lv_if_eq hx hb dX12_inOrder_29 (tgt := 43) rfl (fun hc => ?_) (fun hc => ?_)
      · replace h := h.1 hc
        exact t_X12_inOrder_43 C hr hK8 hS hW (hl.keep [true, true, true, true, true, true, true, false, false] rfl) h
      · replace h := h.2 hc
        refine x_aload_n C hl dX12_inOrder_32 rfl ?_
        refine x_get C hW (t := 12) (k := 42) t1 kl_12 (by decide) fl_X12_120 (v := rv b0 (mR σ l0 42)) rfl dX12_inOrder_33 ?_
        refine x_iload C hl dX12_inOrder_36 rfl ?_
        have t4 := h.1
        replace h := h.2
        have v5 := h.1
        replace h := h.2
        refine x_iald C hW t4 v5 dX12_inOrder_38 ?_
        refine lv_iconst (v := (2 : Int32)) hx hb dX12_inOrder_39 (by decide) ?_
        refine lv_icmp_eq hx hb dX12_inOrder_40 (tgt := 74) rfl (fun hc => ?_) (fun hc => ?_)
        · replace h := h.1 hc
          exact t_X12_inOrder_74 C hr hK8 hS hW (hl.keep [true, true, true, true, true, true, true, false, false] rfl) h
        · replace h := h.2 hc
          exact t_X12_inOrder_43 C hr hK8 hS hW (hl.keep [true, true, true, true, true, true, true, false, false] rfl) h
set_option maxRecDepth 20000 in
set_option maxHeartbeats 4000000 in
theorem t_X12_inOrder_8 {p : Program} {l : Launch} {e : Env} {s : State} {m : MethodId} {args : Array Value} {below : List Frame} {meth : Method} {c : Code} {H : Heap} {locs : List Loc} {D : va_G} {tc : Nat → ClassId} {b0 : Nat} {ls : Array Slot} {G : Lay} {Qx : Mem → Prop} {l0 : Nat} {l1 : Int32} {l2 : Int32} {l3 : Int32} {l4 : Int32} {l5 : Int32}  {σ : Mem} (C : Cx p s m args meth c cX12_inOrder RX12 9 D tc b0) (hr : meth.sig.returnType = (none : Option FieldType)) (hS : va_S (AA b0) s.heap H locs) (hW : Wd G D tc b0 σ H) (hl : hL b0 ls 9 [some (.inr (.inr l0)), some (.inl l1), some (.inl l2), some (.inl l3), some (.inl l4), some (.inl l5), none, none, none]) (h : X_X12_inOrder_8 G Qx l0 l1 l2 l3 l4 l5 σ) : W p l e rm_X12_inOrder s m args below meth c H locs 0 0 (MQ below (va_Qv Qx (fun u t => Pw G D tc b0 u t) (AA b0)) args s 0 0 (AA b0)) (F0 m 8 ls []) := by
  obtain ⟨n, h⟩ := h
  exact t_X12_inOrder_8_n C hr n l5 σ H locs ls hS hW hl h
set_option maxRecDepth 20000 in
set_option maxHeartbeats 4000000 in
theorem t_X12_inOrder_0 {p : Program} {l : Launch} {e : Env} {s : State} {m : MethodId} {args : Array Value} {below : List Frame} {meth : Method} {c : Code} {H : Heap} {locs : List Loc} {D : va_G} {tc : Nat → ClassId} {b0 : Nat} {ls : Array Slot} {G : Lay} {Qx : Mem → Prop} {l0 : Nat} {l1 : Int32} {l2 : Int32} {l3 : Int32} {l4 : Int32}  {σ : Mem} (C : Cx p s m args meth c cX12_inOrder RX12 9 D tc b0) (hr : meth.sig.returnType = (none : Option FieldType)) (hS : va_S (AA b0) s.heap H locs) (hW : Wd G D tc b0 σ H) (hl : hL b0 ls 9 [some (.inr (.inr l0)), some (.inl l1), some (.inl l2), some (.inl l3), some (.inl l4), none, none, none, none]) (h : X_X12_inOrder_0 G Qx l0 l1 l2 l3 l4  σ) : W p l e rm_X12_inOrder s m args below meth c H locs 0 0 (MQ below (va_Qv Qx (fun u t => Pw G D tc b0 u t) (AA b0)) args s 0 0 (AA b0)) (F0 m 0 ls []) := by
  have hx := C.1
  have hb := C.2.1
  unfold X_X12_inOrder_0 at h
  refine x_aload_n C hl dX12_inOrder_0 rfl ?_
  refine lv_iconst (v := (0 : Int32)) hx hb dX12_inOrder_1 (by decide) ?_
  have t1 := h.1
  replace h := h.2
  refine x_putI C hW hS (t := 12) (k := 75) t1 kl_12 (by decide) fl_X12_440 rfl rfl rfl rfl dX12_inOrder_2 (fun H locs hW hS => ?_)
  obtain ⟨s2, e_s2⟩ : ∃ z : Mem, z = (sI σ l0 75 (0 : Int32)) := ⟨_, rfl⟩
  replace h := h s2 e_s2
  replace hW : Wd G D tc b0 s2 H := by rw [e_s2]; exact hW
  refine lv_iconst (v := (0 : Int32)) hx hb dX12_inOrder_5 (by decide) ?_
  refine x_istore C hl dX12_inOrder_6 (by decide) rfl (fun ls hl => ?_)
  exact t_X12_inOrder_8 C hr hS hW (hl.keep [true, true, true, true, true, true, false, false, false] rfl) h
theorem T_X12_inOrder (l : Launch) {G : Lay} {D : va_G} {tc : Nat → ClassId} {b0 : Nat} (l0 : Nat) (l1 : Int32) (l2 : Int32) (l3 : Int32) (l4 : Int32) (σ : Mem) (Qx : Mem → Prop) (h : X_X12_inOrder G Qx l0 l1 l2 l3 l4 σ) : MV l yX12_inOrder cX12_inOrder 9 ((none : Option FieldType)) rm_X12_inOrder G D tc b0 [rv b0 l0, .int l1, .int l2, .int l3, .int l4] σ Qx :=
  x_entry (y := yX12_inOrder) [.inr (.inr l0), .inl l1, .inl l2, .inl l3, .inl l4] 4 (by decide) (Nat.le_of_ble_eq_true rfl) (fun p e s m args below meth c ls C hr hW hl => t_X12_inOrder_0 C hr va_S.rf hW (hl.keep [true, true, true, true, true, false, false, false, false] rfl) h)
