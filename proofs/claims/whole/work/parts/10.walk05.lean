/-! X11_size -/
set_option maxRecDepth 20000 in
set_option maxHeartbeats 4000000 in
theorem t_X11_size_32 {p : Program} {l : Launch} {e : Env} {s : State} {m : MethodId} {args : Array Value} {below : List Frame} {meth : Method} {c : Code} {H : Heap} {locs : List Loc} {D : va_G} {tc : Nat → ClassId} {b0 : Nat} {ls : Array Slot} {G : Lay} {Qx : Int32 → Mem → Prop}   {σ : Mem} (C : Cx p s m args meth c cX11_size RX11 5 D tc b0) (hr : meth.sig.returnType = (some FieldType.int)) (hS : va_S (AA b0) s.heap H locs) (hW : Wd G D tc b0 σ H) (hl : hL b0 ls 5 [none, none, none, none, none]) (h : X_X11_size_32 G Qx   σ) : W p l e rm_X11_size s m args below meth c H locs 0 0 (MQ below (va_Qi Qx (fun u t => Pw G D tc b0 u t) (AA b0)) args s 0 0 (AA b0)) (F0 m 32 ls []) := by
  have hx := C.1
  have hb := C.2.1
  unfold X_X11_size_32 at h
  refine lv_iconst (v := (-1 : Int32)) hx hb dX11_size_32 (by decide) ?_
  exact r_i C hr hW hS h dX11_size_33
set_option maxRecDepth 20000 in
set_option maxHeartbeats 4000000 in
theorem t_X11_size_0 {p : Program} {l : Launch} {e : Env} {s : State} {m : MethodId} {args : Array Value} {below : List Frame} {meth : Method} {c : Code} {H : Heap} {locs : List Loc} {D : va_G} {tc : Nat → ClassId} {b0 : Nat} {ls : Array Slot} {G : Lay} {Qx : Int32 → Mem → Prop} {l0 : Nat} {l1 : Int32} {l2 : Int32}  {σ : Mem} (C : Cx p s m args meth c cX11_size RX11 5 D tc b0) (hr : meth.sig.returnType = (some FieldType.int)) (hS : va_S (AA b0) s.heap H locs) (hW : Wd G D tc b0 σ H) (hl : hL b0 ls 5 [some (.inr (.inr l0)), some (.inl l1), some (.inl l2), none, none]) (h : X_X11_size_0 G Qx l0 l1 l2  σ) : W p l e rm_X11_size s m args below meth c H locs 0 0 (MQ below (va_Qi Qx (fun u t => Pw G D tc b0 u t) (AA b0)) args s 0 0 (AA b0)) (F0 m 0 ls []) := by
  have hx := C.1
  have hb := C.2.1
  unfold X_X11_size_0 at h
  refine x_aload_n C hl dX11_size_0 rfl ?_
  refine x_iload_n C hl dX11_size_1 rfl ?_
  have t1 := h.1
  replace h := h.2
  refine y_r (x_run (As := [.int l1]) C hW hS (T_X11_usableThing l l0 l1 σ _ h) t1 kl_11 (CW.of yv_X11_usableThing ml_X11_227) ⟨rfl, rfl, ⟨by decide, by decide⟩, by decide, by decide⟩ rfl hl.1 rfl (by decide) dX11_size_2) hS (fun w3 s2 H locs h hW hS => ?_)
  refine x_astore_n C hl dX11_size_5 (by decide) rfl (fun ls hl => ?_)
  refine x_aload_n C hl dX11_size_6 rfl ?_
  refine x_aload_n C hl dX11_size_7 rfl ?_
  refine x_iload_n C hl dX11_size_8 rfl ?_
  refine y_r (x_run (As := [rv b0 w3, .int l2]) C hW hS (T_X11_memberOf l l0 w3 l2 s2 _ h) t1 kl_11 (CW.of yv_X11_memberOf ml_X11_230) ⟨rfl, rfl, ⟨by decide, by decide⟩, by decide, by decide⟩ rfl hl.1 rfl (by decide) dX11_size_9) hS (fun w5 s4 H locs h hW hS => ?_)
  refine x_astore C hl dX11_size_12 (by decide) rfl (fun ls hl => ?_)
  refine x_aload_n C hl dX11_size_14 rfl ?_
  refine x_ifnull C dX11_size_15 (tgt := 32) rfl (fun hc => ?_) (fun hc => ?_)
  · replace h := h.1 hc
    exact t_X11_size_32 C hr hS hW (hl.keep [false, false, false, false, false] rfl) h
  · replace h := h.2 hc
    refine x_aload C hl dX11_size_18 rfl ?_
    refine x_ifnull C dX11_size_20 (tgt := 32) rfl (fun hc => ?_) (fun hc => ?_)
    · replace h := h.1 hc
      exact t_X11_size_32 C hr hS hW (hl.keep [false, false, false, false, false] rfl) h
    · replace h := h.2 hc
      refine x_aload C hl dX11_size_23 rfl ?_
      have t6 := h.1
      replace h := h.2
      refine x_get C hW (t := 2) (k := 2) t6 kl_2 (by decide) fl_X11_139 (v := .int (mI s4 w5 2)) rfl dX11_size_25 ?_
      refine lv_iconst (v := (5 : Int32)) hx hb dX11_size_28 (by decide) ?_
      refine lv_icmp_eq hx hb dX11_size_29 (tgt := 34) rfl (fun hc => ?_) (fun hc => ?_)
      · replace h := h.1 hc
        refine x_aload_n C hl dX11_size_34 rfl ?_
        refine x_get C hW (t := 11) (k := 9) t1 kl_11 (by decide) fl_X11_67 (v := rv b0 (mR s4 l0 9)) rfl dX11_size_35 ?_
        refine x_iload_n C hl dX11_size_38 rfl ?_
        refine lv_bipush (v := (100 : Int32)) hx hb dX11_size_39 (by decide) ?_
        refine lv_idiv hx hb dX11_size_41 (by decide) ?_
        have t7 := h.1
        replace h := h.2
        have v8 := h.1
        replace h := h.2
        refine x_aald C hW (t := 106) (t0 := 7) t7 (by decide) rfl v8 dX11_size_42 ?_
        refine x_aload_n C hl dX11_size_43 rfl ?_
        refine x_aload C hl dX11_size_44 rfl ?_
        have t9 := h.1
        replace h := h.2
        refine y_i (x_run (As := [rv b0 w3, rv b0 w5]) C hW hS (T_X9_gather l (mR s4 (mR s4 l0 9) (l1 / (100 : Int32)).toNatClampNeg) w3 w5 s4 _ h) t9 kl_9 (CW.of yv_X9_gather ml_X11_258) ⟨rfl, rfl, ⟨by decide, by decide⟩, by decide, by decide⟩ rfl hl.1 rfl (by decide) dX11_size_46) hS (fun w11 s10 H locs h hW hS => ?_)
        exact r_i C hr hW hS h dX11_size_49
      · replace h := h.2 hc
        exact t_X11_size_32 C hr hS hW (hl.keep [false, false, false, false, false] rfl) h
theorem T_X11_size (l : Launch) {G : Lay} {D : va_G} {tc : Nat → ClassId} {b0 : Nat} (l0 : Nat) (l1 : Int32) (l2 : Int32) (σ : Mem) (Qx : Int32 → Mem → Prop) (h : X_X11_size G Qx l0 l1 l2 σ) : MI l yX11_size cX11_size 5 ((some FieldType.int)) rm_X11_size G D tc b0 [rv b0 l0, .int l1, .int l2] σ Qx :=
  x_entry (y := yX11_size) [.inr (.inr l0), .inl l1, .inl l2] 2 (by decide) (Nat.le_of_ble_eq_true rfl) (fun p e s m args below meth c ls C hr hW hl => t_X11_size_0 C hr va_S.rf hW (hl.keep [true, true, true, false, false] rfl) h)
/-! X11_item -/
set_option maxRecDepth 20000 in
set_option maxHeartbeats 4000000 in
theorem t_X11_item_39 {p : Program} {l : Launch} {e : Env} {s : State} {m : MethodId} {args : Array Value} {below : List Frame} {meth : Method} {c : Code} {H : Heap} {locs : List Loc} {D : va_G} {tc : Nat → ClassId} {b0 : Nat} {ls : Array Slot} {G : Lay} {Qx : Int32 → Mem → Prop}   {σ : Mem} (C : Cx p s m args meth c cX11_item RX11 8 D tc b0) (hr : meth.sig.returnType = (some FieldType.int)) (hS : va_S (AA b0) s.heap H locs) (hW : Wd G D tc b0 σ H) (hl : hL b0 ls 8 [none, none, none, none, none, none, none, none]) (h : X_X11_item_39 G Qx   σ) : W p l e rm_X11_item s m args below meth c H locs 0 0 (MQ below (va_Qi Qx (fun u t => Pw G D tc b0 u t) (AA b0)) args s 0 0 (AA b0)) (F0 m 39 ls []) := by
  have hx := C.1
  have hb := C.2.1
  unfold X_X11_item_39 at h
  refine lv_iconst (v := (-1 : Int32)) hx hb dX11_item_39 (by decide) ?_
  exact r_i C hr hW hS h dX11_item_40
set_option maxRecDepth 20000 in
set_option maxHeartbeats 4000000 in
theorem t_X11_item_0 {p : Program} {l : Launch} {e : Env} {s : State} {m : MethodId} {args : Array Value} {below : List Frame} {meth : Method} {c : Code} {H : Heap} {locs : List Loc} {D : va_G} {tc : Nat → ClassId} {b0 : Nat} {ls : Array Slot} {G : Lay} {Qx : Int32 → Mem → Prop} {l0 : Nat} {l1 : Int32} {l2 : Int32} {l3 : Int32}  {σ : Mem} (C : Cx p s m args meth c cX11_item RX11 8 D tc b0) (hr : meth.sig.returnType = (some FieldType.int)) (hS : va_S (AA b0) s.heap H locs) (hW : Wd G D tc b0 σ H) (hl : hL b0 ls 8 [some (.inr (.inr l0)), some (.inl l1), some (.inl l2), some (.inl l3), none, none, none, none]) (h : X_X11_item_0 G Qx l0 l1 l2 l3  σ) : W p l e rm_X11_item s m args below meth c H locs 0 0 (MQ below (va_Qi Qx (fun u t => Pw G D tc b0 u t) (AA b0)) args s 0 0 (AA b0)) (F0 m 0 ls []) := by
  have hx := C.1
  have hb := C.2.1
  unfold X_X11_item_0 at h
  refine x_aload_n C hl dX11_item_0 rfl ?_
  refine x_iload_n C hl dX11_item_1 rfl ?_
  refine x_iload_n C hl dX11_item_2 rfl ?_
  have t1 := h.1
  replace h := h.2
  refine y_i (x_run (As := [.int l1, .int l2]) C hW hS (T_X11_size l l0 l1 l2 σ _ h) t1 kl_11 (CW.of yv_X11_size ml_X11_262) ⟨rfl, rfl, ⟨by decide, by decide⟩, by decide, by decide⟩ rfl hl.1 rfl (by decide) dX11_item_3) hS (fun w3 s2 H locs h hW hS => ?_)
  refine x_istore C hl dX11_item_6 (by decide) rfl (fun ls hl => ?_)
  refine x_aload_n C hl dX11_item_8 rfl ?_
  refine x_iload_n C hl dX11_item_9 rfl ?_
  refine y_r (x_run (As := [.int l1]) C hW hS (T_X11_thingNumbered l l0 l1 s2 _ h) t1 kl_11 (CW.of yv_X11_thingNumbered ml_X11_210) ⟨rfl, rfl, ⟨by decide, by decide⟩, by decide, by decide⟩ rfl hl.1 rfl (by decide) dX11_item_10) hS (fun w5 s4 H locs h hW hS => ?_)
  refine x_astore C hl dX11_item_13 (by decide) rfl (fun ls hl => ?_)
  refine x_aload_n C hl dX11_item_15 rfl ?_
  refine x_aload C hl dX11_item_16 rfl ?_
  refine x_iload_n C hl dX11_item_18 rfl ?_
  refine y_r (x_run (As := [rv b0 w5, .int l2]) C hW hS (T_X11_memberOf l l0 w5 l2 s4 _ h) t1 kl_11 (CW.of yv_X11_memberOf ml_X11_230) ⟨rfl, rfl, ⟨by decide, by decide⟩, by decide, by decide⟩ rfl hl.1 rfl (by decide) dX11_item_19) hS (fun w7 s6 H locs h hW hS => ?_)
  refine x_astore C hl dX11_item_22 (by decide) rfl (fun ls hl => ?_)
  refine x_iload_n C hl dX11_item_24 rfl ?_
  refine lv_if_lt hx hb dX11_item_25 (tgt := 39) rfl (fun hc => ?_) (fun hc => ?_)
  · replace h := h.1 hc
    exact t_X11_item_39 C hr hS hW (hl.keep [false, false, false, false, false, false, false, false] rfl) h
  · replace h := h.2 hc
    refine x_iload_n C hl dX11_item_28 rfl ?_
    refine x_iload C hl dX11_item_29 rfl ?_
    refine lv_icmp_ge hx hb dX11_item_31 (tgt := 39) rfl (fun hc => ?_) (fun hc => ?_)
    · replace h := h.1 hc
      exact t_X11_item_39 C hr hS hW (hl.keep [false, false, false, false, false, false, false, false] rfl) h
    · replace h := h.2 hc
      refine x_aload C hl dX11_item_34 rfl ?_
      refine x_ifnonnull C dX11_item_36 (tgt := 41) rfl (fun hc => ?_) (fun hc => ?_)
      · replace h := h.2 hc
        refine x_aload_n C hl dX11_item_41 rfl ?_
        refine x_get C hW (t := 11) (k := 9) t1 kl_11 (by decide) fl_X11_67 (v := rv b0 (mR s6 l0 9)) rfl dX11_item_42 ?_
        refine x_iload_n C hl dX11_item_45 rfl ?_
        refine lv_bipush (v := (100 : Int32)) hx hb dX11_item_46 (by decide) ?_
        refine lv_idiv hx hb dX11_item_48 (by decide) ?_
        have t8 := h.1
        replace h := h.2
        have v9 := h.1
        replace h := h.2
        refine x_aald C hW (t := 106) (t0 := 7) t8 (by decide) rfl v9 dX11_item_49 ?_
        refine x_astore C hl dX11_item_50 (by decide) rfl (fun ls hl => ?_)
        refine x_aload C hl dX11_item_52 rfl ?_
        refine x_aload_n C hl dX11_item_54 rfl ?_
        refine x_get C hW (t := 11) (k := 6) t1 kl_11 (by decide) fl_X11_53 (v := rv b0 (mR s6 l0 6)) rfl dX11_item_55 ?_
        have t10 := h.1
        replace h := h.2
        refine x_get C hW (t := 5) (k := 0) t10 kl_5 (by decide) fl_X11_102 (v := rv b0 (mR s6 (mR s6 l0 6) 0)) rfl dX11_item_58 ?_
        refine x_aload C hl dX11_item_61 rfl ?_
        have t11 := h.1
        replace h := h.2
        refine x_get C hW (t := 2) (k := 8) t11 kl_2 (by decide) fl_X11_148 (v := .int (mI s6 w7 8)) rfl dX11_item_63 ?_
        have t12 := h.1
        replace h := h.2
        refine y_i (x_run (As := [.int (mI s6 w7 8)]) C hW hS (T_X6_rootOf l (mR s6 (mR s6 l0 6) 0) (mI s6 w7 8) s6 _ h) t12 kl_6 (CW.of yv_X6_rootOf ml_X11_243) ⟨rfl, rfl, ⟨by decide, by decide⟩, by decide, by decide⟩ rfl hl.1 rfl (by simp [rv_cat, cat_i, cat_l]) dX11_item_66) hS (fun w14 s13 H locs h hW hS => ?_)
        refine x_aload C hl dX11_item_69 rfl ?_
        have t15 := h.1
        replace h := h.2
        refine x_get C hW (t := 9) (k := 3) t15 kl_9 (by decide) fl_X11_265 (v := rv b0 (mR s13 (mR s6 (mR s6 l0 9) (l1 / (100 : Int32)).toNatClampNeg) 3)) rfl dX11_item_71 ?_
        refine x_iload_n C hl dX11_item_74 rfl ?_
        have t16 := h.1
        replace h := h.2
        have v17 := h.1
        replace h := h.2
        refine x_iald C hW t16 v17 dX11_item_75 ?_
        refine y_i (x_run (As := [.int w14, .int (mI s13 (mR s13 (mR s6 (mR s6 l0 9) (l1 / (100 : Int32)).toNatClampNeg) 3) l3.toNatClampNeg)]) C hW hS (T_X9_numberMet l (mR s6 (mR s6 l0 9) (l1 / (100 : Int32)).toNatClampNeg) w14 (mI s13 (mR s13 (mR s6 (mR s6 l0 9) (l1 / (100 : Int32)).toNatClampNeg) 3) l3.toNatClampNeg) s13 _ h) t15 kl_9 (CW.of yv_X9_numberMet ml_X11_247) ⟨rfl, rfl, ⟨by decide, by decide⟩, by decide, by decide⟩ rfl hl.1 rfl (by decide) dX11_item_76) hS (fun w19 s18 H locs h hW hS => ?_)
        exact r_i C hr hW hS h dX11_item_79
      · replace h := h.1 hc
        exact t_X11_item_39 C hr hS hW (hl.keep [false, false, false, false, false, false, false, false] rfl) h
theorem T_X11_item (l : Launch) {G : Lay} {D : va_G} {tc : Nat → ClassId} {b0 : Nat} (l0 : Nat) (l1 : Int32) (l2 : Int32) (l3 : Int32) (σ : Mem) (Qx : Int32 → Mem → Prop) (h : X_X11_item G Qx l0 l1 l2 l3 σ) : MI l yX11_item cX11_item 8 ((some FieldType.int)) rm_X11_item G D tc b0 [rv b0 l0, .int l1, .int l2, .int l3] σ Qx :=
  x_entry (y := yX11_item) [.inr (.inr l0), .inl l1, .inl l2, .inl l3] 4 (by decide) (Nat.le_of_ble_eq_true rfl) (fun p e s m args below meth c ls C hr hW hl => t_X11_item_0 C hr va_S.rf hW (hl.keep [true, true, true, true, false, false, false, false] rfl) h)
/-! X11_drop -/
set_option maxRecDepth 20000 in
set_option maxHeartbeats 4000000 in
theorem t_X11_drop_27 {p : Program} {l : Launch} {e : Env} {s : State} {m : MethodId} {args : Array Value} {below : List Frame} {meth : Method} {c : Code} {H : Heap} {locs : List Loc} {D : va_G} {tc : Nat → ClassId} {b0 : Nat} {ls : Array Slot} {G : Lay} {Qx : Int32 → Mem → Prop}  {k0 : Int32} {σ : Mem} (C : Cx p s m args meth c cX11_drop RX11 3 D tc b0) (hr : meth.sig.returnType = (some FieldType.int)) (hS : va_S (AA b0) s.heap H locs) (hW : Wd G D tc b0 σ H) (hl : hL b0 ls 3 [none, none, none]) (h : X_X11_drop_27 G Qx  k0 σ) : W p l e rm_X11_drop s m args below meth c H locs 0 0 (MQ below (va_Qi Qx (fun u t => Pw G D tc b0 u t) (AA b0)) args s 0 0 (AA b0)) (F0 m 27 ls [.int k0]) := by
  have hx := C.1
  have hb := C.2.1
  unfold X_X11_drop_27 at h
  exact r_i C hr hW hS h dX11_drop_27
set_option maxRecDepth 20000 in
set_option maxHeartbeats 4000000 in
theorem t_X11_drop_0 {p : Program} {l : Launch} {e : Env} {s : State} {m : MethodId} {args : Array Value} {below : List Frame} {meth : Method} {c : Code} {H : Heap} {locs : List Loc} {D : va_G} {tc : Nat → ClassId} {b0 : Nat} {ls : Array Slot} {G : Lay} {Qx : Int32 → Mem → Prop} {l0 : Nat} {l1 : Int32}  {σ : Mem} (C : Cx p s m args meth c cX11_drop RX11 3 D tc b0) (hr : meth.sig.returnType = (some FieldType.int)) (hS : va_S (AA b0) s.heap H locs) (hW : Wd G D tc b0 σ H) (hl : hL b0 ls 3 [some (.inr (.inr l0)), some (.inl l1), none]) (h : X_X11_drop_0 G Qx l0 l1  σ) : W p l e rm_X11_drop s m args below meth c H locs 0 0 (MQ below (va_Qi Qx (fun u t => Pw G D tc b0 u t) (AA b0)) args s 0 0 (AA b0)) (F0 m 0 ls []) := by
  have hx := C.1
  have hb := C.2.1
  unfold X_X11_drop_0 at h
  refine x_aload_n C hl dX11_drop_0 rfl ?_
  refine x_iload_n C hl dX11_drop_1 rfl ?_
  have t1 := h.1
  replace h := h.2
  refine y_r (x_run (As := [.int l1]) C hW hS (T_X11_usableThing l l0 l1 σ _ h) t1 kl_11 (CW.of yv_X11_usableThing ml_X11_227) ⟨rfl, rfl, ⟨by decide, by decide⟩, by decide, by decide⟩ rfl hl.1 rfl (by decide) dX11_drop_2) hS (fun w3 s2 H locs h hW hS => ?_)
  refine x_astore_n C hl dX11_drop_5 (by decide) rfl (fun ls hl => ?_)
  refine x_aload_n C hl dX11_drop_6 rfl ?_
  refine x_ifnonnull C dX11_drop_7 (tgt := 14) rfl (fun hc => ?_) (fun hc => ?_)
  · replace h := h.2 hc
    refine x_aload_n C hl dX11_drop_14 rfl ?_
    refine x_get C hW (t := 11) (k := 9) t1 kl_11 (by decide) fl_X11_67 (v := rv b0 (mR s2 l0 9)) rfl dX11_drop_15 ?_
    refine x_iload_n C hl dX11_drop_18 rfl ?_
    refine lv_bipush (v := (100 : Int32)) hx hb dX11_drop_19 (by decide) ?_
    refine lv_idiv hx hb dX11_drop_21 (by decide) ?_
    have t4 := h.1
    replace h := h.2
    have v5 := h.1
    replace h := h.2
    refine x_aald C hW (t := 106) (t0 := 7) t4 (by decide) rfl v5 dX11_drop_22 ?_
    refine x_aload_n C hl dX11_drop_23 rfl ?_
    have t6 := h.1
    replace h := h.2
    refine y_i (x_run (As := [rv b0 w3]) C hW hS (T_X9_dropFrom l (mR s2 (mR s2 l0 9) (l1 / (100 : Int32)).toNatClampNeg) w3 s2 _ h) t6 kl_9 (CW.of yv_X9_dropFrom ml_X11_268) ⟨rfl, rfl, ⟨by decide, by decide⟩, by decide, by decide⟩ rfl hl.1 rfl (by decide) dX11_drop_24) hS (fun w8 s7 H locs h hW hS => ?_)
    exact t_X11_drop_27 C hr hS hW (hl.keep [false, false, false] rfl) h
  · replace h := h.1 hc
    refine lv_iconst (v := (-1 : Int32)) hx hb dX11_drop_10 (by decide) ?_
    refine lv_goto hx hb dX11_drop_11 (tgt := 27) rfl ?_
    exact t_X11_drop_27 C hr hS hW (hl.keep [false, false, false] rfl) h
theorem T_X11_drop (l : Launch) {G : Lay} {D : va_G} {tc : Nat → ClassId} {b0 : Nat} (l0 : Nat) (l1 : Int32) (σ : Mem) (Qx : Int32 → Mem → Prop) (h : X_X11_drop G Qx l0 l1 σ) : MI l yX11_drop cX11_drop 3 ((some FieldType.int)) rm_X11_drop G D tc b0 [rv b0 l0, .int l1] σ Qx :=
  x_entry (y := yX11_drop) [.inr (.inr l0), .inl l1] 1 (by decide) (Nat.le_of_ble_eq_true rfl) (fun p e s m args below meth c ls C hr hW hl => t_X11_drop_0 C hr va_S.rf hW (hl.keep [true, true, false] rfl) h)
/-! X11_loads -/
set_option maxRecDepth 20000 in
set_option maxHeartbeats 4000000 in
theorem t_X11_loads_18 {p : Program} {l : Launch} {e : Env} {s : State} {m : MethodId} {args : Array Value} {below : List Frame} {meth : Method} {c : Code} {H : Heap} {locs : List Loc} {D : va_G} {tc : Nat → ClassId} {b0 : Nat} {ls : Array Slot} {G : Lay} {Qx : Int32 → Mem → Prop}  {k0 : Int32} {σ : Mem} (C : Cx p s m args meth c cX11_loads RX11 3 D tc b0) (hr : meth.sig.returnType = (some FieldType.int)) (hS : va_S (AA b0) s.heap H locs) (hW : Wd G D tc b0 σ H) (hl : hL b0 ls 3 [none, none, none]) (h : X_X11_loads_18 G Qx  k0 σ) : W p l e rm_X11_loads s m args below meth c H locs 0 0 (MQ below (va_Qi Qx (fun u t => Pw G D tc b0 u t) (AA b0)) args s 0 0 (AA b0)) (F0 m 18 ls [.int k0]) := by
  have hx := C.1
  have hb := C.2.1
  unfold X_X11_loads_18 at h
  exact r_i C hr hW hS h dX11_loads_18
set_option maxRecDepth 20000 in
set_option maxHeartbeats 4000000 in
theorem t_X11_loads_0 {p : Program} {l : Launch} {e : Env} {s : State} {m : MethodId} {args : Array Value} {below : List Frame} {meth : Method} {c : Code} {H : Heap} {locs : List Loc} {D : va_G} {tc : Nat → ClassId} {b0 : Nat} {ls : Array Slot} {G : Lay} {Qx : Int32 → Mem → Prop} {l0 : Nat} {l1 : Int32}  {σ : Mem} (C : Cx p s m args meth c cX11_loads RX11 3 D tc b0) (hr : meth.sig.returnType = (some FieldType.int)) (hS : va_S (AA b0) s.heap H locs) (hW : Wd G D tc b0 σ H) (hl : hL b0 ls 3 [some (.inr (.inr l0)), some (.inl l1), none]) (h : X_X11_loads_0 G Qx l0 l1  σ) : W p l e rm_X11_loads s m args below meth c H locs 0 0 (MQ below (va_Qi Qx (fun u t => Pw G D tc b0 u t) (AA b0)) args s 0 0 (AA b0)) (F0 m 0 ls []) := by
  have hx := C.1
  have hb := C.2.1
  unfold X_X11_loads_0 at h
  refine x_aload_n C hl dX11_loads_0 rfl ?_
  refine x_iload_n C hl dX11_loads_1 rfl ?_
  have t1 := h.1
  replace h := h.2
  refine y_r (x_run (As := [.int l1]) C hW hS (T_X11_openUnit l l0 l1 σ _ h) t1 kl_11 (CW.of yv_X11_openUnit ml_X11_167) ⟨rfl, rfl, ⟨by decide, by decide⟩, by decide, by decide⟩ rfl hl.1 rfl (by decide) dX11_loads_2) hS (fun w3 s2 H locs h hW hS => ?_)
  refine x_astore_n C hl dX11_loads_5 (by decide) rfl (fun ls hl => ?_)
  refine x_aload_n C hl dX11_loads_6 rfl ?_
  refine x_ifnonnull C dX11_loads_7 (tgt := 14) rfl (fun hc => ?_) (fun hc => ?_)
  · replace h := h.2 hc
    refine x_aload_n C hl dX11_loads_14 rfl ?_
    have t4 := h.1
    replace h := h.2
    refine x_get C hW (t := 9) (k := 6) t4 kl_9 (by decide) fl_X11_272 (v := .int (mI s2 w3 6)) rfl dX11_loads_15 ?_
    exact t_X11_loads_18 C hr hS hW (hl.keep [false, false, false] rfl) h
  · replace h := h.1 hc
    refine lv_iconst (v := (-1 : Int32)) hx hb dX11_loads_10 (by decide) ?_
    refine lv_goto hx hb dX11_loads_11 (tgt := 18) rfl ?_
    exact t_X11_loads_18 C hr hS hW (hl.keep [false, false, false] rfl) h
theorem T_X11_loads (l : Launch) {G : Lay} {D : va_G} {tc : Nat → ClassId} {b0 : Nat} (l0 : Nat) (l1 : Int32) (σ : Mem) (Qx : Int32 → Mem → Prop) (h : X_X11_loads G Qx l0 l1 σ) : MI l yX11_loads cX11_loads 3 ((some FieldType.int)) rm_X11_loads G D tc b0 [rv b0 l0, .int l1] σ Qx :=
  x_entry (y := yX11_loads) [.inr (.inr l0), .inl l1] 1 (by decide) (Nat.le_of_ble_eq_true rfl) (fun p e s m args below meth c ls C hr hW hl => t_X11_loads_0 C hr va_S.rf hW (hl.keep [true, true, false] rfl) h)
/-! X11_other -/
set_option maxRecDepth 20000 in
set_option maxHeartbeats 4000000 in
theorem t_X11_other_70 {p : Program} {l : Launch} {e : Env} {s : State} {m : MethodId} {args : Array Value} {below : List Frame} {meth : Method} {c : Code} {H : Heap} {locs : List Loc} {D : va_G} {tc : Nat → ClassId} {b0 : Nat} {ls : Array Slot} {G : Lay} {Qx : Int32 → Mem → Prop}   {σ : Mem} (C : Cx p s m args meth c cX11_other RX11 8 D tc b0) (hr : meth.sig.returnType = (some FieldType.boolean)) (hS : va_S (AA b0) s.heap H locs) (hW : Wd G D tc b0 σ H) (hl : hL b0 ls 8 [none, none, none, none, none, none, none, none]) (h : X_X11_other_70 G Qx   σ) : W p l e rm_X11_other s m args below meth c H locs 0 0 (MQ below (va_Qi Qx (fun u t => Pw G D tc b0 u t) (AA b0)) args s 0 0 (AA b0)) (F0 m 70 ls []) := by
  have hx := C.1
  have hb := C.2.1
  unfold X_X11_other_70 at h
  refine lv_iconst (v := (0 : Int32)) hx hb dX11_other_70 (by decide) ?_
  exact r_z C hr hW hS h.1 h.2 dX11_other_71
set_option maxRecDepth 20000 in
set_option maxHeartbeats 4000000 in
theorem t_X11_other_93 {p : Program} {l : Launch} {e : Env} {s : State} {m : MethodId} {args : Array Value} {below : List Frame} {meth : Method} {c : Code} {H : Heap} {locs : List Loc} {D : va_G} {tc : Nat → ClassId} {b0 : Nat} {ls : Array Slot} {G : Lay} {Qx : Int32 → Mem → Prop} {l0 : Nat} {l2 : Int32} {l3 : Int32} {l4 : Int32} {l5 : Int32} {l6 : Int32}  {σ : Mem} (C : Cx p s m args meth c cX11_other RX11 8 D tc b0) (hr : meth.sig.returnType = (some FieldType.boolean)) (hS : va_S (AA b0) s.heap H locs) (hW : Wd G D tc b0 σ H) (hl : hL b0 ls 8 [some (.inr (.inr l0)), none, some (.inl l2), some (.inl l3), some (.inl l4), some (.inl l5), some (.inl l6), none]) (h : X_X11_other_93 G Qx l0 l2 l3 l4 l5 l6  σ) : W p l e rm_X11_other s m args below meth c H locs 0 0 (MQ below (va_Qi Qx (fun u t => Pw G D tc b0 u t) (AA b0)) args s 0 0 (AA b0)) (F0 m 93 ls []) := by
  have hx := C.1
  have hb := C.2.1
  unfold X_X11_other_93 at h
  refine x_aload_n C hl dX11_other_93 rfl ?_
  have t1 := h.1
  replace h := h.2
  refine x_get C hW (t := 11) (k := 6) t1 kl_11 (by decide) fl_X11_53 (v := rv b0 (mR σ l0 6)) rfl dX11_other_94 ?_
  refine x_iload C hl dX11_other_97 rfl ?_
  refine x_iload_n C hl dX11_other_99 rfl ?_
  refine x_iload_n C hl dX11_other_100 rfl ?_
  refine x_iload C hl dX11_other_101 rfl ?_
  have t2 := h.1
  replace h := h.2
  refine y_i (x_run (As := [.int l6, .int l2, .int l3, .int l4]) C hW hS (T_X5_brokenRule l (mR σ l0 6) l6 l2 l3 l4 σ _ h) t2 kl_5 (CW.of yv_X5_brokenRule ml_X11_280) ⟨rfl, rfl, ⟨by decide, by decide⟩, by decide, by decide⟩ rfl hl.1 rfl (by decide) dX11_other_103) hS (fun w4 s3 H locs h hW hS => ?_)
  refine lv_iconst (v := (-1 : Int32)) hx hb dX11_other_106 (by decide) ?_
  refine lv_icmp_eq hx hb dX11_other_107 (tgt := 112) rfl (fun hc => ?_) (fun hc => ?_)
  · replace h := h.1 hc
    refine x_aload_n C hl dX11_other_112 rfl ?_
    refine x_get C hW (t := 11) (k := 6) t1 kl_11 (by decide) fl_X11_53 (v := rv b0 (mR s3 l0 6)) rfl dX11_other_113 ?_
    refine x_iload C hl dX11_other_116 rfl ?_
    refine x_iload_n C hl dX11_other_118 rfl ?_
    refine x_iload C hl dX11_other_119 rfl ?_
    have t5 := h.1
    replace h := h.2
    refine y_v (x_run (As := [.int l5, .int l3, .int l4]) C hW hS (T_X5_set l (mR s3 l0 6) l5 l3 l4 s3 _ h) t5 kl_5 (CW.of yv_X5_set ml_X11_284) ⟨rfl, rfl, ⟨by decide, by decide⟩, by decide, by decide⟩ rfl hl.1 rfl (by decide) dX11_other_121) hS (fun s6 H locs h hW hS => ?_)
    refine x_aload_n C hl dX11_other_124 rfl ?_
    refine x_get C hW (t := 11) (k := 6) t1 kl_11 (by decide) fl_X11_53 (v := rv b0 (mR s6 l0 6)) rfl dX11_other_125 ?_
    have t7 := h.1
    replace h := h.2
    refine x_get C hW (t := 5) (k := 4) t7 kl_5 (by decide) fl_X11_288 (v := rv b0 (mR s6 (mR s6 l0 6) 4)) rfl dX11_other_128 ?_
    refine x_iload C hl dX11_other_131 rfl ?_
    refine lv_dup2_11 hx hb dX11_other_133 rfl (rv_cat _ _) ?_
    have t8 := h.1
    replace h := h.2
    have v9 := h.1
    replace h := h.2
    refine x_iald C hW t8 v9 dX11_other_134 ?_
    refine lv_iconst (v := (1 : Int32)) hx hb dX11_other_135 (by decide) ?_
    refine lv_iadd hx hb dX11_other_136 ?_
    refine x_iast C hW hS t8 v9 dX11_other_137 (fun H locs hW hS => ?_)
    obtain ⟨s10, e_s10⟩ : ∃ z : Mem, z = (sI s6 (mR s6 (mR s6 l0 6) 4) l5.toNatClampNeg ((mI s6 (mR s6 (mR s6 l0 6) 4) l5.toNatClampNeg) + (1 : Int32))) := ⟨_, rfl⟩
    replace h := h s10 e_s10
    replace hW : Wd G D tc b0 s10 H := by rw [e_s10]; exact hW
    refine lv_iconst (v := (1 : Int32)) hx hb dX11_other_138 (by decide) ?_
    exact r_z C hr hW hS h.1 h.2 dX11_other_139
  · replace h := h.2 hc
    refine lv_iconst (v := (0 : Int32)) hx hb dX11_other_110 (by decide) ?_
    exact r_z C hr hW hS h.1 h.2 dX11_other_111
set_option maxRecDepth 20000 in
set_option maxHeartbeats 4000000 in
theorem t_X11_other_0 {p : Program} {l : Launch} {e : Env} {s : State} {m : MethodId} {args : Array Value} {below : List Frame} {meth : Method} {c : Code} {H : Heap} {locs : List Loc} {D : va_G} {tc : Nat → ClassId} {b0 : Nat} {ls : Array Slot} {G : Lay} {Qx : Int32 → Mem → Prop} {l0 : Nat} {l1 : Int32} {l2 : Int32} {l3 : Int32} {l4 : Int32}  {σ : Mem} (C : Cx p s m args meth c cX11_other RX11 8 D tc b0) (hr : meth.sig.returnType = (some FieldType.boolean)) (hS : va_S (AA b0) s.heap H locs) (hW : Wd G D tc b0 σ H) (hl : hL b0 ls 8 [some (.inr (.inr l0)), some (.inl l1), some (.inl l2), some (.inl l3), some (.inl l4), none, none, none]) (h : X_X11_other_0 G Qx l0 l1 l2 l3 l4  σ) : W p l e rm_X11_other s m args below meth c H locs 0 0 (MQ below (va_Qi Qx (fun u t => Pw G D tc b0 u t) (AA b0)) args s 0 0 (AA b0)) (F0 m 0 ls []) := by
  have hx := C.1
  have hb := C.2.1
  unfold X_X11_other_0 at h
  refine x_aload_n C hl dX11_other_0 rfl ?_
  have t1 := h.1
  replace h := h.2
  refine x_get C hW (t := 11) (k := 6) t1 kl_11 (by decide) fl_X11_53 (v := rv b0 (mR σ l0 6)) rfl dX11_other_1 ?_
  refine x_aload_n C hl dX11_other_4 rfl ?_
  refine x_get C hW (t := 11) (k := 6) t1 kl_11 (by decide) fl_X11_53 (v := rv b0 (mR σ l0 6)) rfl dX11_other_5 ?_
  have t2 := h.1
  replace h := h.2
  refine x_get C hW (t := 5) (k := 0) t2 kl_5 (by decide) fl_X11_102 (v := rv b0 (mR σ (mR σ l0 6) 0)) rfl dX11_other_8 ?_
  refine x_iload_n C hl dX11_other_11 rfl ?_
  have t3 := h.1
  replace h := h.2
  refine y_i (x_run (As := [.int l1]) C hW hS (T_X6_rootOf l (mR σ (mR σ l0 6) 0) l1 σ _ h) t3 kl_6 (CW.of yv_X6_rootOf ml_X11_243) ⟨rfl, rfl, ⟨by decide, by decide⟩, by decide, by decide⟩ rfl hl.1 rfl (by simp [rv_cat, cat_i, cat_l]) dX11_other_12) hS (fun w5 s4 H locs h hW hS => ?_)
  refine x_iload_n C hl dX11_other_15 rfl ?_
  refine y_i (x_run (As := [.int w5, .int l2]) C hW hS (T_X5_rowOf l (mR σ l0 6) w5 l2 s4 _ h) t2 kl_5 (CW.of yv_X5_rowOf ml_X11_275) ⟨rfl, rfl, ⟨by decide, by decide⟩, by decide, by decide⟩ rfl hl.1 rfl (by decide) dX11_other_16) hS (fun w7 s6 H locs h hW hS => ?_)
  refine x_istore C hl dX11_other_19 (by decide) rfl (fun ls hl => ?_)
  refine x_iload C hl dX11_other_21 rfl ?_
  refine lv_iconst (v := (-1 : Int32)) hx hb dX11_other_23 (by decide) ?_
  refine lv_icmp_ne hx hb dX11_other_24 (tgt := 29) rfl (fun hc => ?_) (fun hc => ?_)
  · replace h := h.2 hc
    refine x_aload_n C hl dX11_other_29 rfl ?_
    refine x_get C hW (t := 11) (k := 6) t1 kl_11 (by decide) fl_X11_53 (v := rv b0 (mR s6 l0 6)) rfl dX11_other_30 ?_
    have t8 := h.1
    replace h := h.2
    refine x_get C hW (t := 5) (k := 3) t8 kl_5 (by decide) fl_X11_278 (v := rv b0 (mR s6 (mR s6 l0 6) 3)) rfl dX11_other_33 ?_
    refine x_iload C hl dX11_other_36 rfl ?_
    have t9 := h.1
    replace h := h.2
    have v10 := h.1
    replace h := h.2
    refine x_iald C hW t9 v10 dX11_other_38 ?_
    refine x_istore C hl dX11_other_39 (by decide) rfl (fun ls hl => ?_)
    refine x_aload_n C hl dX11_other_41 rfl ?_
    refine x_get C hW (t := 11) (k := 6) t1 kl_11 (by decide) fl_X11_53 (v := rv b0 (mR s6 l0 6)) rfl dX11_other_42 ?_
    refine x_get C hW (t := 5) (k := 0) t8 kl_5 (by decide) fl_X11_102 (v := rv b0 (mR s6 (mR s6 l0 6) 0)) rfl dX11_other_45 ?_
    refine x_iload C hl dX11_other_48 rfl ?_
    refine x_iload_n C hl dX11_other_50 rfl ?_
    have t11 := h.1
    replace h := h.2
    refine y_r (x_run (As := [.int (mI s6 (mR s6 (mR s6 l0 6) 3) w7.toNatClampNeg), .int l3]) C hW hS (T_X6_memberAt l (mR s6 (mR s6 l0 6) 0) (mI s6 (mR s6 (mR s6 l0 6) 3) w7.toNatClampNeg) l3 s6 _ h) t11 kl_6 (CW.of yv_X6_memberAt ml_X11_135) ⟨rfl, rfl, ⟨by decide, by decide⟩, by decide, by decide⟩ rfl hl.1 rfl (by decide) dX11_other_51) hS (fun w13 s12 H locs h hW hS => ?_)
    refine x_astore C hl dX11_other_54 (by decide) rfl (fun ls hl => ?_)
    refine x_aload C hl dX11_other_56 rfl ?_
    refine x_ifnull C dX11_other_58 (tgt := 70) rfl (fun hc => ?_) (fun hc => ?_)
    · replace h := h.1 hc
      exact t_X11_other_70 C hr hS hW (hl.keep [false, false, false, false, false, false, false, false] rfl) h
    · replace h := h.2 hc
      refine x_aload C hl dX11_other_61 rfl ?_
      have t14 := h.1
      replace h := h.2
      refine x_get C hW (t := 2) (k := 2) t14 kl_2 (by decide) fl_X11_139 (v := .int (mI s12 w13 2)) rfl dX11_other_63 ?_
      refine lv_iconst (v := (5 : Int32)) hx hb dX11_other_66 (by decide) ?_
      refine lv_icmp_ne hx hb dX11_other_67 (tgt := 72) rfl (fun hc => ?_) (fun hc => ?_)
      · replace h := h.2 hc
        refine x_aload C hl dX11_other_72 rfl ?_
        refine x_get C hW (t := 2) (k := 2) t14 kl_2 (by decide) fl_X11_139 (v := .int (mI s12 w13 2)) rfl dX11_other_74 ?_
        refine lv_iconst (v := (4 : Int32)) hx hb dX11_other_77 (by decide) ?_
        refine lv_icmp_eq hx hb dX11_other_78 (tgt := 93) rfl (fun hc => ?_) (fun hc => ?_)
        · replace h := h.1 hc
          exact t_X11_other_93 C hr hS hW (hl.keep [true, false, true, true, true, true, true, false] rfl) h
        · replace h := h.2 hc
          refine x_aload C hl dX11_other_81 rfl ?_
          refine x_iload C hl dX11_other_83 rfl ?_
          refine y_i (x_run (As := [.int l4]) C hW hS (T_X2_holds l w13 l4 s12 _ h) t14 kl_2 (CW.of yv_X2_holds ml_X11_250) ⟨rfl, rfl, ⟨by decide, by decide⟩, by decide, by decide⟩ rfl hl.1 rfl (by decide) dX11_other_85) hS (fun w16 s15 H locs h hW hS => ?_)
          refine lv_if_ne hx hb dX11_other_88 (tgt := 93) rfl (fun hc => ?_) (fun hc => ?_)
          · replace h := h.2 hc
            exact t_X11_other_93 C hr hS hW (hl.keep [true, false, true, true, true, true, true, false] rfl) h
          · replace h := h.1 hc
            refine lv_iconst (v := (0 : Int32)) hx hb dX11_other_91 (by decide) ?_
            exact r_z C hr hW hS h.1 h.2 dX11_other_92
      · replace h := h.1 hc
        exact t_X11_other_70 C hr hS hW (hl.keep [false, false, false, false, false, false, false, false] rfl) h
  · replace h := h.1 hc
    refine lv_iconst (v := (0 : Int32)) hx hb dX11_other_27 (by decide) ?_
    exact r_z C hr hW hS h.1 h.2 dX11_other_28
theorem T_X11_other (l : Launch) {G : Lay} {D : va_G} {tc : Nat → ClassId} {b0 : Nat} (l0 : Nat) (l1 : Int32) (l2 : Int32) (l3 : Int32) (l4 : Int32) (σ : Mem) (Qx : Int32 → Mem → Prop) (h : X_X11_other G Qx l0 l1 l2 l3 l4 σ) : MI l yX11_other cX11_other 8 ((some FieldType.boolean)) rm_X11_other G D tc b0 [rv b0 l0, .int l1, .int l2, .int l3, .int l4] σ Qx :=
  x_entry (y := yX11_other) [.inr (.inr l0), .inl l1, .inl l2, .inl l3, .inl l4] 3 (by decide) (Nat.le_of_ble_eq_true rfl) (fun p e s m args below meth c ls C hr hW hl => t_X11_other_0 C hr va_S.rf hW (hl.keep [true, true, true, true, true, false, false, false] rfl) h)
/-! X11_cell -/
set_option maxRecDepth 20000 in
set_option maxHeartbeats 4000000 in
theorem t_X11_cell_49 {p : Program} {l : Launch} {e : Env} {s : State} {m : MethodId} {args : Array Value} {below : List Frame} {meth : Method} {c : Code} {H : Heap} {locs : List Loc} {D : va_G} {tc : Nat → ClassId} {b0 : Nat} {ls : Array Slot} {G : Lay} {Qx : Int64 → Mem → Prop}   {σ : Mem} (C : Cx p s m args meth c cX11_cell RX11 6 D tc b0) (hr : meth.sig.returnType = (some FieldType.long)) (hS : va_S (AA b0) s.heap H locs) (hW : Wd G D tc b0 σ H) (hl : hL b0 ls 6 [none, none, none, none, none, none]) (h : X_X11_cell_49 G Qx   σ) : W p l e rm_X11_cell s m args below meth c H locs 0 0 (MQ below (va_Ql Qx (fun u t => Pw G D tc b0 u t) (AA b0)) args s 0 0 (AA b0)) (F0 m 49 ls []) := by
  have hx := C.1
  have hb := C.2.1
  unfold X_X11_cell_49 at h
  refine lv_ldc2 (own := RX11) (v := (-9223372036854775808 : Int64)) hx hb C.2.2.2.1 (C.2.2.2.2.1 _ (gc5 210 rfl rfl)) dX11_cell_49 ?_
  exact r_l C hr hW hS h dX11_cell_52
set_option maxRecDepth 20000 in
set_option maxHeartbeats 4000000 in
theorem t_X11_cell_0 {p : Program} {l : Launch} {e : Env} {s : State} {m : MethodId} {args : Array Value} {below : List Frame} {meth : Method} {c : Code} {H : Heap} {locs : List Loc} {D : va_G} {tc : Nat → ClassId} {b0 : Nat} {ls : Array Slot} {G : Lay} {Qx : Int64 → Mem → Prop} {l0 : Nat} {l1 : Int32} {l2 : Int32} {l3 : Int32}  {σ : Mem} (C : Cx p s m args meth c cX11_cell RX11 6 D tc b0) (hr : meth.sig.returnType = (some FieldType.long)) (hS : va_S (AA b0) s.heap H locs) (hW : Wd G D tc b0 σ H) (hl : hL b0 ls 6 [some (.inr (.inr l0)), some (.inl l1), some (.inl l2), some (.inl l3), none, none]) (h : X_X11_cell_0 G Qx l0 l1 l2 l3  σ) : W p l e rm_X11_cell s m args below meth c H locs 0 0 (MQ below (va_Ql Qx (fun u t => Pw G D tc b0 u t) (AA b0)) args s 0 0 (AA b0)) (F0 m 0 ls []) := by
  have hx := C.1
  have hb := C.2.1
  unfold X_X11_cell_0 at h
  refine x_aload_n C hl dX11_cell_0 rfl ?_
  have t1 := h.1
  replace h := h.2
  refine x_get C hW (t := 11) (k := 6) t1 kl_11 (by decide) fl_X11_53 (v := rv b0 (mR σ l0 6)) rfl dX11_cell_1 ?_
  have t2 := h.1
  replace h := h.2
  refine x_get C hW (t := 5) (k := 0) t2 kl_5 (by decide) fl_X11_102 (v := rv b0 (mR σ (mR σ l0 6) 0)) rfl dX11_cell_4 ?_
  refine x_iload_n C hl dX11_cell_7 rfl ?_
  have t3 := h.1
  replace h := h.2
  refine y_r (x_run (As := [.int l1]) C hW hS (T_X6_kindAt l (mR σ (mR σ l0 6) 0) l1 σ _ h) t3 kl_6 (CW.of yv_X6_kindAt ml_X11_117) ⟨rfl, rfl, ⟨by decide, by decide⟩, by decide, by decide⟩ rfl hl.1 rfl (by decide) dX11_cell_8) hS (fun w5 s4 H locs h hW hS => ?_)
  refine x_astore C hl dX11_cell_11 (by decide) rfl (fun ls hl => ?_)
  refine x_aload_n C hl dX11_cell_13 rfl ?_
  refine x_get C hW (t := 11) (k := 6) t1 kl_11 (by decide) fl_X11_53 (v := rv b0 (mR s4 l0 6)) rfl dX11_cell_14 ?_
  refine x_aload_n C hl dX11_cell_17 rfl ?_
  refine x_get C hW (t := 11) (k := 6) t1 kl_11 (by decide) fl_X11_53 (v := rv b0 (mR s4 l0 6)) rfl dX11_cell_18 ?_
  have t6 := h.1
  replace h := h.2
  refine x_get C hW (t := 5) (k := 0) t6 kl_5 (by decide) fl_X11_102 (v := rv b0 (mR s4 (mR s4 l0 6) 0)) rfl dX11_cell_21 ?_
  refine x_iload_n C hl dX11_cell_24 rfl ?_
  have t7 := h.1
  replace h := h.2
  refine y_i (x_run (As := [.int l1]) C hW hS (T_X6_rootOf l (mR s4 (mR s4 l0 6) 0) l1 s4 _ h) t7 kl_6 (CW.of yv_X6_rootOf ml_X11_243) ⟨rfl, rfl, ⟨by decide, by decide⟩, by decide, by decide⟩ rfl hl.1 rfl (by simp [rv_cat, cat_i, cat_l]) dX11_cell_25) hS (fun w9 s8 H locs h hW hS => ?_)
  refine x_iload_n C hl dX11_cell_28 rfl ?_
  refine y_i (x_run (As := [.int w9, .int l2]) C hW hS (T_X5_rowOf l (mR s4 l0 6) w9 l2 s8 _ h) t6 kl_5 (CW.of yv_X5_rowOf ml_X11_275) ⟨rfl, rfl, ⟨by decide, by decide⟩, by decide, by decide⟩ rfl hl.1 rfl (by decide) dX11_cell_29) hS (fun w11 s10 H locs h hW hS => ?_)
  refine x_istore C hl dX11_cell_32 (by decide) rfl (fun ls hl => ?_)
  refine x_aload C hl dX11_cell_34 rfl ?_
  refine x_ifnull C dX11_cell_36 (tgt := 49) rfl (fun hc => ?_) (fun hc => ?_)
  · replace h := h.1 hc
    exact t_X11_cell_49 C hr hS hW (hl.keep [false, false, false, false, false, false] rfl) h
  · replace h := h.2 hc
    refine x_iload C hl dX11_cell_39 rfl ?_
    refine lv_iconst (v := (-1 : Int32)) hx hb dX11_cell_41 (by decide) ?_
    refine lv_icmp_eq hx hb dX11_cell_42 (tgt := 49) rfl (fun hc => ?_) (fun hc => ?_)
    · replace h := h.1 hc
      exact t_X11_cell_49 C hr hS hW (hl.keep [false, false, false, false, false, false] rfl) h
    · replace h := h.2 hc
      refine x_iload_n C hl dX11_cell_45 rfl ?_
      refine lv_if_ge hx hb dX11_cell_46 (tgt := 53) rfl (fun hc => ?_) (fun hc => ?_)
      · replace h := h.1 hc
        refine x_aload C hl dX11_cell_53 rfl ?_
        have t12 := h.1
        replace h := h.2
        refine x_get C hW (t := 1) (k := 3) t12 kl_1 (by decide) fl_X11_129 (v := .int (mI s10 w5 3)) rfl dX11_cell_55 ?_
        by_cases hc0 : (mI s10 w5 3) = 1
        · replace h := h.1 hc0
          rw [hc0]
          refine lv_lookup hx hb dX11_cell_58 rfl (off := 26) rfl (tgt := 84) rfl ?_
          refine x_aload_n C hl dX11_cell_84 rfl ?_
          refine x_get C hW (t := 11) (k := 6) t1 kl_11 (by decide) fl_X11_53 (v := rv b0 (mR s10 l0 6)) rfl dX11_cell_85 ?_
          refine x_iload_n C hl dX11_cell_88 rfl ?_
          refine x_iload C hl dX11_cell_89 rfl ?_
          refine x_iload_n C hl dX11_cell_91 rfl ?_
          have t13 := h.1
          replace h := h.2
          refine y_l (x_run (As := [.int l1, .int w11, .int l3]) C hW hS (T_X5_joinedCell l (mR s10 l0 6) l1 w11 l3 s10 _ h) t13 kl_5 (CW.of yv_X5_joinedCell ml_X11_290) ⟨rfl, rfl, ⟨by decide, by decide⟩, by decide, by decide⟩ rfl hl.1 rfl (by decide) dX11_cell_92) hS (fun w15 s14 H locs h hW hS => ?_)
          exact r_l C hr hW hS h dX11_cell_95
        replace h := h.2
        by_cases hc1 : (mI s10 w5 3) = 2
        · replace h := h.1 hc1
          rw [hc1]
          refine lv_lookup hx hb dX11_cell_58 rfl (off := 38) rfl (tgt := 96) rfl ?_
          refine x_aload_n C hl dX11_cell_96 rfl ?_
          refine x_get C hW (t := 11) (k := 6) t1 kl_11 (by decide) fl_X11_53 (v := rv b0 (mR s10 l0 6)) rfl dX11_cell_97 ?_
          refine x_iload_n C hl dX11_cell_100 rfl ?_
          refine x_iload C hl dX11_cell_101 rfl ?_
          refine x_iload_n C hl dX11_cell_103 rfl ?_
          have t16 := h.1
          replace h := h.2
          refine y_l (x_run (As := [.int l1, .int w11, .int l3]) C hW hS (T_X5_ownCell l (mR s10 l0 6) l1 w11 l3 s10 _ h) t16 kl_5 (CW.of yv_X5_ownCell ml_X11_294) ⟨rfl, rfl, ⟨by decide, by decide⟩, by decide, by decide⟩ rfl hl.1 rfl (by decide) dX11_cell_104) hS (fun w18 s17 H locs h hW hS => ?_)
          exact r_l C hr hW hS h dX11_cell_107
        replace h := h.2
        replace h := h ⟨hc0, hc1⟩
        refine lv_lookup hx hb dX11_cell_58 rfl (off := 50) (lk_out_X11_cell_58 hc0 hc1) (tgt := 108) rfl ?_
        refine x_aload_n C hl dX11_cell_108 rfl ?_
        refine x_get C hW (t := 11) (k := 6) t1 kl_11 (by decide) fl_X11_53 (v := rv b0 (mR s10 l0 6)) rfl dX11_cell_109 ?_
        refine x_aload C hl dX11_cell_112 rfl ?_
        refine x_get C hW (t := 1) (k := 2) t12 kl_1 (by decide) fl_X11_126 (v := .int (mI s10 w5 2)) rfl dX11_cell_114 ?_
        refine x_iload C hl dX11_cell_117 rfl ?_
        refine x_iload_n C hl dX11_cell_119 rfl ?_
        have t19 := h.1
        replace h := h.2
        refine y_l (x_run (As := [.int (mI s10 w5 2), .int w11, .int l3]) C hW hS (T_X5_oneCell l (mR s10 l0 6) (mI s10 w5 2) w11 l3 s10 _ h) t19 kl_5 (CW.of yv_X5_oneCell ml_X11_297) ⟨rfl, rfl, ⟨by decide, by decide⟩, by decide, by decide⟩ rfl hl.1 rfl (by decide) dX11_cell_120) hS (fun w21 s20 H locs h hW hS => ?_)
        exact r_l C hr hW hS h dX11_cell_123
      · replace h := h.2 hc
        exact t_X11_cell_49 C hr hS hW (hl.keep [false, false, false, false, false, false] rfl) h
theorem T_X11_cell (l : Launch) {G : Lay} {D : va_G} {tc : Nat → ClassId} {b0 : Nat} (l0 : Nat) (l1 : Int32) (l2 : Int32) (l3 : Int32) (σ : Mem) (Qx : Int64 → Mem → Prop) (h : X_X11_cell G Qx l0 l1 l2 l3 σ) : ML l yX11_cell cX11_cell 6 ((some FieldType.long)) rm_X11_cell G D tc b0 [rv b0 l0, .int l1, .int l2, .int l3] σ Qx :=
  x_entry (y := yX11_cell) [.inr (.inr l0), .inl l1, .inl l2, .inl l3] 2 (by decide) (Nat.le_of_ble_eq_true rfl) (fun p e s m args below meth c ls C hr hW hl => t_X11_cell_0 C hr va_S.rf hW (hl.keep [true, true, true, true, false, false] rfl) h)
/-! X11_tellRows -/
set_option maxRecDepth 20000 in
set_option maxHeartbeats 4000000 in
theorem t_X11_tellRows_116 {p : Program} {l : Launch} {e : Env} {s : State} {m : MethodId} {args : Array Value} {below : List Frame} {meth : Method} {c : Code} {H : Heap} {locs : List Loc} {D : va_G} {tc : Nat → ClassId} {b0 : Nat} {ls : Array Slot} {G : Lay} {Qx : Mem → Prop} {l0 : Nat} {l1 : Int32} {l2 : Int32}  {K32 : Int32 × Mem → Prop} {σ : Mem} (C : Cx p s m args meth c cX11_tellRows RX11 3 D tc b0) (hr : meth.sig.returnType = (none : Option FieldType)) (hK32 : ∀ (x2 : Int32) (σ : Mem) (H : Heap) (locs : List Loc) (ls : Array Slot), va_S (AA b0) s.heap H locs → Wd G D tc b0 σ H → hL b0 ls 3 [some (.inr (.inr l0)), some (.inl l1), some (.inl x2)] → K32 (x2, σ) → W p l e rm_X11_tellRows s m args below meth c H locs 0 0 (MQ below (va_Qv Qx (fun u t => Pw G D tc b0 u t) (AA b0)) args s 0 0 (AA b0)) (F0 m 32 ls [])) (hS : va_S (AA b0) s.heap H locs) (hW : Wd G D tc b0 σ H) (hl : hL b0 ls 3 [some (.inr (.inr l0)), some (.inl l1), some (.inl l2)]) (h : X_X11_tellRows_116 G Qx K32 l0 l1 l2  σ) : W p l e rm_X11_tellRows s m args below meth c H locs 0 0 (MQ below (va_Qv Qx (fun u t => Pw G D tc b0 u t) (AA b0)) args s 0 0 (AA b0)) (F0 m 116 ls []) := by
  have hx := C.1
  have hb := C.2.1
  unfold X_X11_tellRows_116 at h
  refine x_iinc C hl dX11_tellRows_116 rfl (v := (1 : Int32)) (by decide) (by decide) rfl (fun ls hl => ?_)
  refine lv_goto hx hb dX11_tellRows_119 (tgt := 32) rfl ?_
  exact hK32 _ _ _ _ _ hS hW (hl.keep [true, true, true] rfl) h
set_option maxRecDepth 20000 in
set_option maxHeartbeats 4000000 in
theorem t_X11_tellRows_32_n {p : Program} {l : Launch} {e : Env} {s : State} {m : MethodId} {args : Array Value} {below : List Frame} {meth : Method} {c : Code} {D : va_G} {tc : Nat → ClassId} {b0 : Nat} {G : Lay} {Qx : Mem → Prop} {l0 : Nat} {l1 : Int32} (C : Cx p s m args meth c cX11_tellRows RX11 3 D tc b0) (hr : meth.sig.returnType = (none : Option FieldType)) (n : Nat) : ∀ (l2 : Int32) (σ : Mem) (H : Heap) (locs : List Loc) (ls : Array Slot), va_S (AA b0) s.heap H locs → Wd G D tc b0 σ H → hL b0 ls 3 [some (.inr (.inr l0)), some (.inl l1), some (.inl l2)] → Lp (X_X11_tellRows_32_s G Qx l0 l1) n (l2, σ) → W p l e rm_X11_tellRows s m args below meth c H locs 0 0 (MQ below (va_Qv Qx (fun u t => Pw G D tc b0 u t) (AA b0)) args s 0 0 (AA b0)) (F0 m 32 ls []) := by
  have hx := C.1
  have hb := C.2.1
  induction n with
  | zero => intro l2 σ H locs ls hS hW hl h; exact False.elim h
  | succ n hK32 =>
    intro l2 σ H locs ls hS hW hl h
    replace h : X_X11_tellRows_32_s G Qx l0 l1 (Lp (X_X11_tellRows_32_s G Qx l0 l1) n) (l2, σ) := h
    unfold X_X11_tellRows_32_s at h
    refine x_iload_n C hl dX11_tellRows_32 rfl ?_
    refine x_aload_n C hl dX11_tellRows_33 rfl ?_
    have t1 := h.1
    replace h := h.2
    refine x_get C hW (t := 11) (k := 6) t1 kl_11 (by decide) fl_X11_53 (v := rv b0 (mR σ l0 6)) rfl dX11_tellRows_34 ?_
    refine x_iload_n C hl dX11_tellRows_37 rfl ?_
    have t2 := h.1
    replace h := h.2
    refine y_i (x_run (As := [.int l1]) C hW hS (T_X5_endOf l (mR σ l0 6) l1 σ _ h) t2 kl_5 (CW.of yv_X5_endOf ml_X11_325) ⟨rfl, rfl, ⟨by decide, by decide⟩, by decide, by decide⟩ rfl hl.1 rfl (by simp [rv_cat, cat_i, cat_l]) dX11_tellRows_38) hS (fun w4 s3 H locs h hW hS => ?_)
    refine lv_icmp_ge hx hb dX11_tellRows_41 (tgt := 122) rfl (fun hc => ?_) (fun hc => ?_)
    · replace h := h.1 hc
      exact r_v C hr hW hS h dX11_tellRows_122
    · replace h := h.2 hc
      refine x_aload_n C hl dX11_tellRows_44 rfl ?_
      refine x_get C hW (t := 11) (k := 6) t1 kl_11 (by decide) fl_X11_53 (v := rv b0 (mR s3 l0 6)) rfl dX11_tellRows_45 ?_
      have t5 := h.1
      replace h := h.2
      refine x_get C hW (t := 5) (k := 0) t5 kl_5 (by decide) fl_X11_102 (v := rv b0 (mR s3 (mR s3 l0 6) 0)) rfl dX11_tellRows_48 ?_
      refine x_aload_n C hl dX11_tellRows_51 rfl ?_
      refine x_get C hW (t := 11) (k := 6) t1 kl_11 (by decide) fl_X11_53 (v := rv b0 (mR s3 l0 6)) rfl dX11_tellRows_52 ?_
      refine x_get C hW (t := 5) (k := 3) t5 kl_5 (by decide) fl_X11_278 (v := rv b0 (mR s3 (mR s3 l0 6) 3)) rfl dX11_tellRows_55 ?_
      refine x_iload_n C hl dX11_tellRows_58 rfl ?_
      have t6 := h.1
      replace h := h.2
      have v7 := h.1
      replace h := h.2
      refine x_iald C hW t6 v7 dX11_tellRows_59 ?_
      refine x_aload_n C hl dX11_tellRows_60 rfl ?_
      refine x_get C hW (t := 11) (k := 5) t1 kl_11 (by decide) fl_X11_32 (v := rv b0 (mR s3 l0 5)) rfl dX11_tellRows_61 ?_
      have t8 := h.1
      replace h := h.2
      refine x_get C hW (t := 3) (k := 0) t8 kl_3 (by decide) fl_X11_319 (v := .int (mI s3 (mR s3 l0 5) 0)) rfl dX11_tellRows_64 ?_
      have t9 := h.1
      replace h := h.2
      refine y_i (x_run (As := [.int (mI s3 (mR s3 (mR s3 l0 6) 3) l2.toNatClampNeg), .int (mI s3 (mR s3 l0 5) 0)]) C hW hS (T_X6_isOf l (mR s3 (mR s3 l0 6) 0) (mI s3 (mR s3 (mR s3 l0 6) 3) l2.toNatClampNeg) (mI s3 (mR s3 l0 5) 0) s3 _ h) t9 kl_6 (CW.of yv_X6_isOf ml_X11_254) ⟨rfl, rfl, ⟨by decide, by decide⟩, by decide, by decide⟩ rfl hl.1 rfl (by decide) dX11_tellRows_67) hS (fun w11 s10 H locs h hW hS => ?_)
      refine lv_if_eq hx hb dX11_tellRows_70 (tgt := 116) rfl (fun hc => ?_) (fun hc => ?_)
      · replace h := h.1 hc
        exact t_X11_tellRows_116 C hr hK32 hS hW (hl.keep [true, true, true] rfl) h
      · replace h := h.2 hc
        refine x_aload_n C hl dX11_tellRows_73 rfl ?_
        refine x_get C hW (t := 11) (k := 5) t1 kl_11 (by decide) fl_X11_32 (v := rv b0 (mR s10 l0 5)) rfl dX11_tellRows_74 ?_
        refine x_aload_n C hl dX11_tellRows_77 rfl ?_
        refine x_get C hW (t := 11) (k := 6) t1 kl_11 (by decide) fl_X11_53 (v := rv b0 (mR s10 l0 6)) rfl dX11_tellRows_78 ?_
        refine x_iload_n C hl dX11_tellRows_81 rfl ?_
        have t12 := h.1
        replace h := h.2
        refine y_i (x_run (As := [rv b0 (mR s10 l0 6), .int l2]) C hW hS (T_X3_isTrueOf l (mR s10 l0 5) (mR s10 l0 6) l2 s10 _ h) t12 kl_3 (CW.of yv_X3_isTrueOf ml_X11_328) ⟨rfl, rfl, ⟨by decide, by decide⟩, by decide, by decide⟩ rfl hl.1 rfl (by decide) dX11_tellRows_82) hS (fun w14 s13 H locs h hW hS => ?_)
        refine lv_if_eq hx hb dX11_tellRows_85 (tgt := 116) rfl (fun hc => ?_) (fun hc => ?_)
        · replace h := h.1 hc
          exact t_X11_tellRows_116 C hr hK32 hS hW (hl.keep [true, true, true] rfl) h
        · replace h := h.2 hc
          refine x_aload_n C hl dX11_tellRows_88 rfl ?_
          refine x_get C hW (t := 11) (k := 11) t1 kl_11 (by decide) fl_X11_83 (v := rv b0 (mR s13 l0 11)) rfl dX11_tellRows_89 ?_
          refine x_aload_n C hl dX11_tellRows_92 rfl ?_
          refine x_get C hW (t := 11) (k := 12) t1 kl_11 (by decide) fl_X11_306 (v := .int (mI s13 l0 12)) rfl dX11_tellRows_93 ?_
          refine x_aload_n C hl dX11_tellRows_96 rfl ?_
          refine x_get C hW (t := 11) (k := 6) t1 kl_11 (by decide) fl_X11_53 (v := rv b0 (mR s13 l0 6)) rfl dX11_tellRows_97 ?_
          have t15 := h.1
          replace h := h.2
          refine x_get C hW (t := 5) (k := 2) t15 kl_5 (by decide) fl_X11_332 (v := rv b0 (mR s13 (mR s13 l0 6) 2)) rfl dX11_tellRows_100 ?_
          refine x_iload_n C hl dX11_tellRows_103 rfl ?_
          have t16 := h.1
          replace h := h.2
          have v17 := h.1
          replace h := h.2
          refine x_iald C hW t16 v17 dX11_tellRows_104 ?_
          have t18 := h.1
          replace h := h.2
          have v19 := h.1
          replace h := h.2
          refine x_iast C hW hS t18 v19 dX11_tellRows_105 (fun H locs hW hS => ?_)
          obtain ⟨s20, e_s20⟩ : ∃ z : Mem, z = (sI s13 (mR s13 l0 11) (mI s13 l0 12).toNatClampNeg (mI s13 (mR s13 (mR s13 l0 6) 2) l2.toNatClampNeg)) := ⟨_, rfl⟩
          replace h := h s20 e_s20
          replace hW : Wd G D tc b0 s20 H := by rw [e_s20]; exact hW
          refine x_aload_n C hl dX11_tellRows_106 rfl ?_
          refine lv_dup hx hb dX11_tellRows_107 (rv_cat _ _) ?_
          refine x_get C hW (t := 11) (k := 12) t1 kl_11 (by decide) fl_X11_306 (v := .int (mI s20 l0 12)) rfl dX11_tellRows_108 ?_
          refine lv_iconst (v := (1 : Int32)) hx hb dX11_tellRows_111 (by decide) ?_
          refine lv_iadd hx hb dX11_tellRows_112 ?_
          refine x_putI C hW hS (t := 11) (k := 12) t1 kl_11 (by decide) fl_X11_306 rfl rfl rfl rfl dX11_tellRows_113 (fun H locs hW hS => ?_)
          obtain ⟨s21, e_s21⟩ : ∃ z : Mem, z = (sI s20 l0 12 ((mI s20 l0 12) + (1 : Int32))) := ⟨_, rfl⟩
          replace h := h s21 e_s21
          replace hW : Wd G D tc b0 s21 H := by rw [e_s21]; exact hW
          exact t_X11_tellRows_116 C hr hK32 hS hW (hl.keep [true, true, true] rfl) h
set_option maxRecDepth 20000 in
set_option maxHeartbeats 4000000 in
theorem t_X11_tellRows_32 {p : Program} {l : Launch} {e : Env} {s : State} {m : MethodId} {args : Array Value} {below : List Frame} {meth : Method} {c : Code} {H : Heap} {locs : List Loc} {D : va_G} {tc : Nat → ClassId} {b0 : Nat} {ls : Array Slot} {G : Lay} {Qx : Mem → Prop} {l0 : Nat} {l1 : Int32} {l2 : Int32}  {σ : Mem} (C : Cx p s m args meth c cX11_tellRows RX11 3 D tc b0) (hr : meth.sig.returnType = (none : Option FieldType)) (hS : va_S (AA b0) s.heap H locs) (hW : Wd G D tc b0 σ H) (hl : hL b0 ls 3 [some (.inr (.inr l0)), some (.inl l1), some (.inl l2)]) (h : X_X11_tellRows_32 G Qx l0 l1 l2 σ) : W p l e rm_X11_tellRows s m args below meth c H locs 0 0 (MQ below (va_Qv Qx (fun u t => Pw G D tc b0 u t) (AA b0)) args s 0 0 (AA b0)) (F0 m 32 ls []) := by
  obtain ⟨n, h⟩ := h
  exact t_X11_tellRows_32_n C hr n l2 σ H locs ls hS hW hl h
set_option maxRecDepth 20000 in
set_option maxHeartbeats 4000000 in
theorem t_X11_tellRows_0 {p : Program} {l : Launch} {e : Env} {s : State} {m : MethodId} {args : Array Value} {below : List Frame} {meth : Method} {c : Code} {H : Heap} {locs : List Loc} {D : va_G} {tc : Nat → ClassId} {b0 : Nat} {ls : Array Slot} {G : Lay} {Qx : Mem → Prop} {l0 : Nat}  {σ : Mem} (C : Cx p s m args meth c cX11_tellRows RX11 3 D tc b0) (hr : meth.sig.returnType = (none : Option FieldType)) (hS : va_S (AA b0) s.heap H locs) (hW : Wd G D tc b0 σ H) (hl : hL b0 ls 3 [some (.inr (.inr l0)), none, none]) (h : X_X11_tellRows_0 G Qx l0  σ) : W p l e rm_X11_tellRows s m args below meth c H locs 0 0 (MQ below (va_Qv Qx (fun u t => Pw G D tc b0 u t) (AA b0)) args s 0 0 (AA b0)) (F0 m 0 ls []) := by
  have hx := C.1
  have hb := C.2.1
  unfold X_X11_tellRows_0 at h
  refine x_aload_n C hl dX11_tellRows_0 rfl ?_
  have t1 := h.1
  replace h := h.2
  refine x_get C hW (t := 11) (k := 6) t1 kl_11 (by decide) fl_X11_53 (v := rv b0 (mR σ l0 6)) rfl dX11_tellRows_1 ?_
  have t2 := h.1
  replace h := h.2
  refine x_get C hW (t := 5) (k := 0) t2 kl_5 (by decide) fl_X11_102 (v := rv b0 (mR σ (mR σ l0 6) 0)) rfl dX11_tellRows_4 ?_
  refine x_aload_n C hl dX11_tellRows_7 rfl ?_
  refine x_get C hW (t := 11) (k := 5) t1 kl_11 (by decide) fl_X11_32 (v := rv b0 (mR σ l0 5)) rfl dX11_tellRows_8 ?_
  have t3 := h.1
  replace h := h.2
  refine x_get C hW (t := 3) (k := 0) t3 kl_3 (by decide) fl_X11_319 (v := .int (mI σ (mR σ l0 5) 0)) rfl dX11_tellRows_11 ?_
  have t4 := h.1
  replace h := h.2
  refine y_i (x_run (As := [.int (mI σ (mR σ l0 5) 0)]) C hW hS (T_X6_rootOf l (mR σ (mR σ l0 6) 0) (mI σ (mR σ l0 5) 0) σ _ h) t4 kl_6 (CW.of yv_X6_rootOf ml_X11_243) ⟨rfl, rfl, ⟨by decide, by decide⟩, by decide, by decide⟩ rfl hl.1 rfl (by decide) dX11_tellRows_14) hS (fun w6 s5 H locs h hW hS => ?_)
  refine x_istore_n C hl dX11_tellRows_17 (by decide) rfl (fun ls hl => ?_)
  refine x_aload_n C hl dX11_tellRows_18 rfl ?_
  refine lv_iconst (v := (0 : Int32)) hx hb dX11_tellRows_19 (by decide) ?_
  refine x_putI C hW hS (t := 11) (k := 12) t1 kl_11 (by decide) fl_X11_306 rfl rfl rfl rfl dX11_tellRows_20 (fun H locs hW hS => ?_)
  obtain ⟨s7, e_s7⟩ : ∃ z : Mem, z = (sI s5 l0 12 (0 : Int32)) := ⟨_, rfl⟩
  replace h := h s7 e_s7
  replace hW : Wd G D tc b0 s7 H := by rw [e_s7]; exact hW
  refine x_aload_n C hl dX11_tellRows_23 rfl ?_
  refine x_get C hW (t := 11) (k := 6) t1 kl_11 (by decide) fl_X11_53 (v := rv b0 (mR s7 l0 6)) rfl dX11_tellRows_24 ?_
  refine x_iload_n C hl dX11_tellRows_27 rfl ?_
  have t8 := h.1
  replace h := h.2
  refine y_i (x_run (As := [.int w6]) C hW hS (T_X5_firstOf l (mR s7 l0 6) w6 s7 _ h) t8 kl_5 (CW.of yv_X5_firstOf ml_X11_322) ⟨rfl, rfl, ⟨by decide, by decide⟩, by decide, by decide⟩ rfl hl.1 rfl (by decide) dX11_tellRows_28) hS (fun w10 s9 H locs h hW hS => ?_)
  refine x_istore_n C hl dX11_tellRows_31 (by decide) rfl (fun ls hl => ?_)
  exact t_X11_tellRows_32 C hr hS hW (hl.keep [true, true, true] rfl) h
theorem T_X11_tellRows (l : Launch) {G : Lay} {D : va_G} {tc : Nat → ClassId} {b0 : Nat} (l0 : Nat) (σ : Mem) (Qx : Mem → Prop) (h : X_X11_tellRows G Qx l0 σ) : MV l yX11_tellRows cX11_tellRows 3 ((none : Option FieldType)) rm_X11_tellRows G D tc b0 [rv b0 l0] σ Qx :=
  x_entry (y := yX11_tellRows) [.inr (.inr l0)] 2 (by decide) (Nat.le_of_ble_eq_true rfl) (fun p e s m args below meth c ls C hr hW hl => t_X11_tellRows_0 C hr va_S.rf hW (hl.keep [true, false, false] rfl) h)
/-! X11_found -/
set_option maxRecDepth 20000 in
set_option maxHeartbeats 4000000 in
theorem t_X11_found_22 {p : Program} {l : Launch} {e : Env} {s : State} {m : MethodId} {args : Array Value} {below : List Frame} {meth : Method} {c : Code} {H : Heap} {locs : List Loc} {D : va_G} {tc : Nat → ClassId} {b0 : Nat} {ls : Array Slot} {G : Lay} {Qx : Int32 → Mem → Prop}  {k0 : Int32} {σ : Mem} (C : Cx p s m args meth c cX11_found RX11 2 D tc b0) (hr : meth.sig.returnType = (some FieldType.int)) (hS : va_S (AA b0) s.heap H locs) (hW : Wd G D tc b0 σ H) (hl : hL b0 ls 2 [none, none]) (h : X_X11_found_22 G Qx  k0 σ) : W p l e rm_X11_found s m args below meth c H locs 0 0 (MQ below (va_Qi Qx (fun u t => Pw G D tc b0 u t) (AA b0)) args s 0 0 (AA b0)) (F0 m 22 ls [.int k0]) := by
  have hx := C.1
  have hb := C.2.1
  unfold X_X11_found_22 at h
  exact r_i C hr hW hS h dX11_found_22
set_option maxRecDepth 20000 in
set_option maxHeartbeats 4000000 in
theorem t_X11_found_12 {p : Program} {l : Launch} {e : Env} {s : State} {m : MethodId} {args : Array Value} {below : List Frame} {meth : Method} {c : Code} {H : Heap} {locs : List Loc} {D : va_G} {tc : Nat → ClassId} {b0 : Nat} {ls : Array Slot} {G : Lay} {Qx : Int32 → Mem → Prop}   {σ : Mem} (C : Cx p s m args meth c cX11_found RX11 2 D tc b0) (hr : meth.sig.returnType = (some FieldType.int)) (hS : va_S (AA b0) s.heap H locs) (hW : Wd G D tc b0 σ H) (hl : hL b0 ls 2 [none, none]) (h : X_X11_found_12 G Qx   σ) : W p l e rm_X11_found s m args below meth c H locs 0 0 (MQ below (va_Qi Qx (fun u t => Pw G D tc b0 u t) (AA b0)) args s 0 0 (AA b0)) (F0 m 12 ls []) := by
  have hx := C.1
  have hb := C.2.1
  unfold X_X11_found_12 at h
  refine lv_iconst (v := (-1 : Int32)) hx hb dX11_found_12 (by decide) ?_
  refine lv_goto hx hb dX11_found_13 (tgt := 22) rfl ?_
  exact t_X11_found_22 C hr hS hW (hl.keep [false, false] rfl) h
set_option maxRecDepth 20000 in
set_option maxHeartbeats 4000000 in
theorem t_X11_found_0 {p : Program} {l : Launch} {e : Env} {s : State} {m : MethodId} {args : Array Value} {below : List Frame} {meth : Method} {c : Code} {H : Heap} {locs : List Loc} {D : va_G} {tc : Nat → ClassId} {b0 : Nat} {ls : Array Slot} {G : Lay} {Qx : Int32 → Mem → Prop} {l0 : Nat} {l1 : Int32}  {σ : Mem} (C : Cx p s m args meth c cX11_found RX11 2 D tc b0) (hr : meth.sig.returnType = (some FieldType.int)) (hS : va_S (AA b0) s.heap H locs) (hW : Wd G D tc b0 σ H) (hl : hL b0 ls 2 [some (.inr (.inr l0)), some (.inl l1)]) (h : X_X11_found_0 G Qx l0 l1  σ) : W p l e rm_X11_found s m args below meth c H locs 0 0 (MQ below (va_Qi Qx (fun u t => Pw G D tc b0 u t) (AA b0)) args s 0 0 (AA b0)) (F0 m 0 ls []) := by
  have hx := C.1
  have hb := C.2.1
  unfold X_X11_found_0 at h
  refine x_iload_n C hl dX11_found_0 rfl ?_
  refine lv_if_lt hx hb dX11_found_1 (tgt := 12) rfl (fun hc => ?_) (fun hc => ?_)
  · replace h := h.1 hc
    exact t_X11_found_12 C hr hS hW (hl.keep [false, false] rfl) h
  · replace h := h.2 hc
    refine x_iload_n C hl dX11_found_4 rfl ?_
    refine x_aload_n C hl dX11_found_5 rfl ?_
    have t1 := h.1
    replace h := h.2
    refine x_get C hW (t := 11) (k := 12) t1 kl_11 (by decide) fl_X11_306 (v := .int (mI σ l0 12)) rfl dX11_found_6 ?_
    refine lv_icmp_lt hx hb dX11_found_9 (tgt := 16) rfl (fun hc => ?_) (fun hc => ?_)
    · replace h := h.1 hc
      refine x_aload_n C hl dX11_found_16 rfl ?_
      refine x_get C hW (t := 11) (k := 11) t1 kl_11 (by decide) fl_X11_83 (v := rv b0 (mR σ l0 11)) rfl dX11_found_17 ?_
      refine x_iload_n C hl dX11_found_20 rfl ?_
      have t2 := h.1
      replace h := h.2
      have v3 := h.1
      replace h := h.2
      refine x_iald C hW t2 v3 dX11_found_21 ?_
      exact t_X11_found_22 C hr hS hW (hl.keep [false, false] rfl) h
    · replace h := h.2 hc
      exact t_X11_found_12 C hr hS hW (hl.keep [false, false] rfl) h
theorem T_X11_found (l : Launch) {G : Lay} {D : va_G} {tc : Nat → ClassId} {b0 : Nat} (l0 : Nat) (l1 : Int32) (σ : Mem) (Qx : Int32 → Mem → Prop) (h : X_X11_found G Qx l0 l1 σ) : MI l yX11_found cX11_found 2 ((some FieldType.int)) rm_X11_found G D tc b0 [rv b0 l0, .int l1] σ Qx :=
  x_entry (y := yX11_found) [.inr (.inr l0), .inl l1] 0 (by decide) (Nat.le_of_ble_eq_true rfl) (fun p e s m args below meth c ls C hr hW hl => t_X11_found_0 C hr va_S.rf hW (hl.keep [true, true] rfl) h)
/-! X11_openUnits -/
set_option maxRecDepth 20000 in
set_option maxHeartbeats 4000000 in
theorem t_X11_openUnits_24 {p : Program} {l : Launch} {e : Env} {s : State} {m : MethodId} {args : Array Value} {below : List Frame} {meth : Method} {c : Code} {H : Heap} {locs : List Loc} {D : va_G} {tc : Nat → ClassId} {b0 : Nat} {ls : Array Slot} {G : Lay} {Qx : Int32 → Mem → Prop} {l0 : Nat} {l1 : Int32} {l2 : Int32}  {K4 : Int32 × Int32 × Mem → Prop} {σ : Mem} (C : Cx p s m args meth c cX11_openUnits RX11 3 D tc b0) (hr : meth.sig.returnType = (some FieldType.int)) (hK4 : ∀ (x1 : Int32) (x2 : Int32) (σ : Mem) (H : Heap) (locs : List Loc) (ls : Array Slot), va_S (AA b0) s.heap H locs → Wd G D tc b0 σ H → hL b0 ls 3 [some (.inr (.inr l0)), some (.inl x1), some (.inl x2)] → K4 (x1, x2, σ) → W p l e rm_X11_openUnits s m args below meth c H locs 0 0 (MQ below (va_Qi Qx (fun u t => Pw G D tc b0 u t) (AA b0)) args s 0 0 (AA b0)) (F0 m 4 ls [])) (hS : va_S (AA b0) s.heap H locs) (hW : Wd G D tc b0 σ H) (hl : hL b0 ls 3 [some (.inr (.inr l0)), some (.inl l1), some (.inl l2)]) (h : X_X11_openUnits_24 G Qx K4 l0 l1 l2  σ) : W p l e rm_X11_openUnits s m args below meth c H locs 0 0 (MQ below (va_Qi Qx (fun u t => Pw G D tc b0 u t) (AA b0)) args s 0 0 (AA b0)) (F0 m 24 ls []) := by
  have hx := C.1
  have hb := C.2.1
  unfold X_X11_openUnits_24 at h
  refine x_iinc C hl dX11_openUnits_24 rfl (v := (1 : Int32)) (by decide) (by decide) rfl (fun ls hl => ?_)
  refine lv_goto hx hb dX11_openUnits_27 (tgt := 4) rfl ?_
  exact hK4 _ _ _ _ _ _ hS hW (hl.keep [true, true, true] rfl) h
set_option maxRecDepth 20000 in
set_option maxHeartbeats 4000000 in
theorem t_X11_openUnits_4_n {p : Program} {l : Launch} {e : Env} {s : State} {m : MethodId} {args : Array Value} {below : List Frame} {meth : Method} {c : Code} {D : va_G} {tc : Nat → ClassId} {b0 : Nat} {G : Lay} {Qx : Int32 → Mem → Prop} {l0 : Nat} (C : Cx p s m args meth c cX11_openUnits RX11 3 D tc b0) (hr : meth.sig.returnType = (some FieldType.int)) (n : Nat) : ∀ (l1 : Int32) (l2 : Int32) (σ : Mem) (H : Heap) (locs : List Loc) (ls : Array Slot), va_S (AA b0) s.heap H locs → Wd G D tc b0 σ H → hL b0 ls 3 [some (.inr (.inr l0)), some (.inl l1), some (.inl l2)] → Lp (X_X11_openUnits_4_s G Qx l0) n (l1, l2, σ) → W p l e rm_X11_openUnits s m args below meth c H locs 0 0 (MQ below (va_Qi Qx (fun u t => Pw G D tc b0 u t) (AA b0)) args s 0 0 (AA b0)) (F0 m 4 ls []) := by
  have hx := C.1
  have hb := C.2.1
  induction n with
  | zero => intro l1 l2 σ H locs ls hS hW hl h; exact False.elim h
  | succ n hK4 =>
    intro l1 l2 σ H locs ls hS hW hl h
    replace h : X_X11_openUnits_4_s G Qx l0 (Lp (X_X11_openUnits_4_s G Qx l0) n) (l1, l2, σ) := h
    unfold X_X11_openUnits_4_s at h
    refine x_iload_n C hl dX11_openUnits_4 rfl ?_
    refine lv_iconst (v := (4 : Int32)) hx hb dX11_openUnits_5 (by decide) ?_
    refine lv_icmp_ge hx hb dX11_openUnits_6 (tgt := 30) rfl (fun hc => ?_) (fun hc => ?_)
    · replace h := h.1 hc
      refine x_iload_n C hl dX11_openUnits_30 rfl ?_
      exact r_i C hr hW hS h dX11_openUnits_31
    · replace h := h.2 hc
      refine x_aload_n C hl dX11_openUnits_9 rfl ?_
      have t1 := h.1
      replace h := h.2
      refine x_get C hW (t := 11) (k := 9) t1 kl_11 (by decide) fl_X11_67 (v := rv b0 (mR σ l0 9)) rfl dX11_openUnits_10 ?_
      refine x_iload_n C hl dX11_openUnits_13 rfl ?_
      have t2 := h.1
      replace h := h.2
      have v3 := h.1
      replace h := h.2
      refine x_aald C hW (t := 106) (t0 := 7) t2 (by decide) rfl v3 dX11_openUnits_14 ?_
      have t4 := h.1
      replace h := h.2
      refine x_get C hW (t := 9) (k := 4) t4 kl_9 (by decide) fl_X11_160 (v := .int (mI σ (mR σ (mR σ l0 9) l2.toNatClampNeg) 4)) rfl dX11_openUnits_15 ?_
      refine lv_if_eq hx hb dX11_openUnits_18 (tgt := 24) rfl (fun hc => ?_) (fun hc => ?_)
      · replace h := h.1 hc
        exact t_X11_openUnits_24 C hr hK4 hS hW (hl.keep [true, true, true] rfl) h
      · replace h := h.2 hc
        refine x_iinc C hl dX11_openUnits_21 rfl (v := (1 : Int32)) (by decide) (by decide) rfl (fun ls hl => ?_)
        exact t_X11_openUnits_24 C hr hK4 hS hW (hl.keep [true, true, true] rfl) h
set_option maxRecDepth 20000 in
set_option maxHeartbeats 4000000 in
theorem t_X11_openUnits_4 {p : Program} {l : Launch} {e : Env} {s : State} {m : MethodId} {args : Array Value} {below : List Frame} {meth : Method} {c : Code} {H : Heap} {locs : List Loc} {D : va_G} {tc : Nat → ClassId} {b0 : Nat} {ls : Array Slot} {G : Lay} {Qx : Int32 → Mem → Prop} {l0 : Nat} {l1 : Int32} {l2 : Int32}  {σ : Mem} (C : Cx p s m args meth c cX11_openUnits RX11 3 D tc b0) (hr : meth.sig.returnType = (some FieldType.int)) (hS : va_S (AA b0) s.heap H locs) (hW : Wd G D tc b0 σ H) (hl : hL b0 ls 3 [some (.inr (.inr l0)), some (.inl l1), some (.inl l2)]) (h : X_X11_openUnits_4 G Qx l0 l1 l2 σ) : W p l e rm_X11_openUnits s m args below meth c H locs 0 0 (MQ below (va_Qi Qx (fun u t => Pw G D tc b0 u t) (AA b0)) args s 0 0 (AA b0)) (F0 m 4 ls []) := by
  obtain ⟨n, h⟩ := h
  exact t_X11_openUnits_4_n C hr n l1 l2 σ H locs ls hS hW hl h
set_option maxRecDepth 20000 in
set_option maxHeartbeats 4000000 in
theorem t_X11_openUnits_0 {p : Program} {l : Launch} {e : Env} {s : State} {m : MethodId} {args : Array Value} {below : List Frame} {meth : Method} {c : Code} {H : Heap} {locs : List Loc} {D : va_G} {tc : Nat → ClassId} {b0 : Nat} {ls : Array Slot} {G : Lay} {Qx : Int32 → Mem → Prop} {l0 : Nat}  {σ : Mem} (C : Cx p s m args meth c cX11_openUnits RX11 3 D tc b0) (hr : meth.sig.returnType = (some FieldType.int)) (hS : va_S (AA b0) s.heap H locs) (hW : Wd G D tc b0 σ H) (hl : hL b0 ls 3 [some (.inr (.inr l0)), none, none]) (h : X_X11_openUnits_0 G Qx l0  σ) : W p l e rm_X11_openUnits s m args below meth c H locs 0 0 (MQ below (va_Qi Qx (fun u t => Pw G D tc b0 u t) (AA b0)) args s 0 0 (AA b0)) (F0 m 0 ls []) := by
  have hx := C.1
  have hb := C.2.1
  unfold X_X11_openUnits_0 at h
  refine lv_iconst (v := (0 : Int32)) hx hb dX11_openUnits_0 (by decide) ?_
  refine x_istore_n C hl dX11_openUnits_1 (by decide) rfl (fun ls hl => ?_)
  refine lv_iconst (v := (0 : Int32)) hx hb dX11_openUnits_2 (by decide) ?_
  refine x_istore_n C hl dX11_openUnits_3 (by decide) rfl (fun ls hl => ?_)
  exact t_X11_openUnits_4 C hr hS hW (hl.keep [true, true, true] rfl) h
theorem T_X11_openUnits (l : Launch) {G : Lay} {D : va_G} {tc : Nat → ClassId} {b0 : Nat} (l0 : Nat) (σ : Mem) (Qx : Int32 → Mem → Prop) (h : X_X11_openUnits G Qx l0 σ) : MI l yX11_openUnits cX11_openUnits 3 ((some FieldType.int)) rm_X11_openUnits G D tc b0 [rv b0 l0] σ Qx :=
  x_entry (y := yX11_openUnits) [.inr (.inr l0)] 2 (by decide) (Nat.le_of_ble_eq_true rfl) (fun p e s m args below meth c ls C hr hW hl => t_X11_openUnits_0 C hr va_S.rf hW (hl.keep [true, false, false] rfl) h)
/-! X11_count -/
set_option maxRecDepth 20000 in
set_option maxHeartbeats 4000000 in
theorem t_X11_count_0 {p : Program} {l : Launch} {e : Env} {s : State} {m : MethodId} {args : Array Value} {below : List Frame} {meth : Method} {c : Code} {H : Heap} {locs : List Loc} {D : va_G} {tc : Nat → ClassId} {b0 : Nat} {ls : Array Slot} {G : Lay} {Qx : Int32 → Mem → Prop} {l0 : Nat} {l1 : Int32}  {σ : Mem} (C : Cx p s m args meth c cX11_count RX11 2 D tc b0) (hr : meth.sig.returnType = (some FieldType.int)) (hS : va_S (AA b0) s.heap H locs) (hW : Wd G D tc b0 σ H) (hl : hL b0 ls 2 [some (.inr (.inr l0)), some (.inl l1)]) (h : X_X11_count_0 G Qx l0 l1  σ) : W p l e rm_X11_count s m args below meth c H locs 0 0 (MQ below (va_Qi Qx (fun u t => Pw G D tc b0 u t) (AA b0)) args s 0 0 (AA b0)) (F0 m 0 ls []) := by
  have hx := C.1
  have hb := C.2.1
  unfold X_X11_count_0 at h
  refine x_iload_n C hl dX11_count_0 rfl ?_
  by_cases hc0 : l1 = 0
  · replace h := h.1 hc0
    rw [hc0]
    refine lv_tableIn hx hb dX11_count_1 (by decide) (by decide) (off := 27) rfl (tgt := 28) rfl ?_
    refine x_aload_n C hl dX11_count_28 rfl ?_
    have t1 := h.1
    replace h := h.2
    refine x_get C hW (t := 11) (k := 6) t1 kl_11 (by decide) fl_X11_53 (v := rv b0 (mR σ l0 6)) rfl dX11_count_29 ?_
    have t2 := h.1
    replace h := h.2
    refine x_get C hW (t := 5) (k := 0) t2 kl_5 (by decide) fl_X11_102 (v := rv b0 (mR σ (mR σ l0 6) 0)) rfl dX11_count_32 ?_
    have t3 := h.1
    replace h := h.2
    refine x_get C hW (t := 6) (k := 0) t3 kl_6 (by decide) fl_X11_108 (v := .int (mI σ (mR σ (mR σ l0 6) 0) 0)) rfl dX11_count_35 ?_
    exact r_i C hr hW hS h dX11_count_38
  replace h := h.2
  by_cases hc1 : l1 = 1
  · replace h := h.1 hc1
    rw [hc1]
    refine lv_tableIn hx hb dX11_count_1 (by decide) (by decide) (off := 38) rfl (tgt := 39) rfl ?_
    refine x_aload_n C hl dX11_count_39 rfl ?_
    have t4 := h.1
    replace h := h.2
    refine y_i (x_run (As := []) C hW hS (T_X11_openUnits l l0 σ _ h) t4 kl_11 (CW.of yv_X11_openUnits ml_X11_309) ⟨rfl, rfl, ⟨by decide, by decide⟩, by decide, by decide⟩ rfl hl.1 rfl (by decide) dX11_count_40) hS (fun w6 s5 H locs h hW hS => ?_)
    exact r_i C hr hW hS h dX11_count_43
  replace h := h.2
  by_cases hc2 : l1 = 2
  · replace h := h.1 hc2
    rw [hc2]
    refine lv_tableIn hx hb dX11_count_1 (by decide) (by decide) (off := 43) rfl (tgt := 44) rfl ?_
    refine x_aload_n C hl dX11_count_44 rfl ?_
    have t7 := h.1
    replace h := h.2
    refine x_get C hW (t := 11) (k := 6) t7 kl_11 (by decide) fl_X11_53 (v := rv b0 (mR σ l0 6)) rfl dX11_count_45 ?_
    have t8 := h.1
    replace h := h.2
    refine y_i (x_run (As := []) C hW hS (T_X5_total l (mR σ l0 6) σ _ h) t8 kl_5 (CW.of yv_X5_total ml_X11_313) ⟨rfl, rfl, ⟨by decide, by decide⟩, by decide, by decide⟩ rfl hl.1 rfl (by decide) dX11_count_48) hS (fun w10 s9 H locs h hW hS => ?_)
    exact r_i C hr hW hS h dX11_count_51
  replace h := h.2
  replace h := h ⟨hc0, hc1, hc2⟩
  refine lv_tableOut hx hb dX11_count_1 (tb_out3 hc0 hc1 hc2) (tgt := 52) rfl ?_
  refine lv_iconst (v := (-1 : Int32)) hx hb dX11_count_52 (by decide) ?_
  exact r_i C hr hW hS h dX11_count_53
theorem T_X11_count (l : Launch) {G : Lay} {D : va_G} {tc : Nat → ClassId} {b0 : Nat} (l0 : Nat) (l1 : Int32) (σ : Mem) (Qx : Int32 → Mem → Prop) (h : X_X11_count G Qx l0 l1 σ) : MI l yX11_count cX11_count 2 ((some FieldType.int)) rm_X11_count G D tc b0 [rv b0 l0, .int l1] σ Qx :=
  x_entry (y := yX11_count) [.inr (.inr l0), .inl l1] 0 (by decide) (Nat.le_of_ble_eq_true rfl) (fun p e s m args below meth c ls C hr hW hl => t_X11_count_0 C hr va_S.rf hW (hl.keep [true, true] rfl) h)
/-! X12_feed -/
set_option maxRecDepth 20000 in
set_option maxHeartbeats 4000000 in
theorem t_X12_feed_71 {p : Program} {l : Launch} {e : Env} {s : State} {m : MethodId} {args : Array Value} {below : List Frame} {meth : Method} {c : Code} {H : Heap} {locs : List Loc} {D : va_G} {tc : Nat → ClassId} {b0 : Nat} {ls : Array Slot} {G : Lay} {Qx : Int32 → Mem → Prop} {l0 : Nat} {l1 : Int32} {l2 : Int32} {l3 : Int32} {l4 : Int32} {l5 : Int32} {l6 : Int32} {k0 : Int32} {K18 : Int32 × Mem → Prop} {σ : Mem} (C : Cx p s m args meth c cX12_feed RX12 8 D tc b0) (hr : meth.sig.returnType = (some FieldType.int)) (hK18 : ∀ (x6 : Int32) (σ : Mem) (H : Heap) (locs : List Loc) (ls : Array Slot), va_S (AA b0) s.heap H locs → Wd G D tc b0 σ H → hL b0 ls 8 [some (.inr (.inr l0)), some (.inl l1), some (.inl l2), some (.inl l3), some (.inl l4), some (.inl l5), some (.inl x6), none] → K18 (x6, σ) → W p l e rm_X12_feed s m args below meth c H locs 0 0 (MQ below (va_Qi Qx (fun u t => Pw G D tc b0 u t) (AA b0)) args s 0 0 (AA b0)) (F0 m 18 ls [])) (hS : va_S (AA b0) s.heap H locs) (hW : Wd G D tc b0 σ H) (hl : hL b0 ls 8 [some (.inr (.inr l0)), some (.inl l1), some (.inl l2), some (.inl l3), some (.inl l4), some (.inl l5), some (.inl l6), none]) (h : X_X12_feed_71 G Qx K18 l0 l1 l2 l3 l4 l5 l6 k0 σ) : W p l e rm_X12_feed s m args below meth c H locs 0 0 (MQ below (va_Qi Qx (fun u t => Pw G D tc b0 u t) (AA b0)) args s 0 0 (AA b0)) (F0 m 71 ls [.int k0]) := by
  have hx := C.1
  have hb := C.2.1
  unfold X_X12_feed_71 at h
  refine x_istore C hl dX12_feed_71 (by decide) rfl (fun ls hl => ?_)
  refine x_aload_n C hl dX12_feed_73 rfl ?_
  have t1 := h.1
  replace h := h.2
  refine x_get C hW (t := 12) (k := 0) t1 kl_12 (by decide) fl_X12_7 (v := rv b0 (mR σ l0 0)) rfl dX12_feed_74 ?_
  refine x_aload_n C hl dX12_feed_77 rfl ?_
  refine x_get C hW (t := 12) (k := 1) t1 kl_12 (by decide) fl_X12_223 (v := .int (mI σ l0 1)) rfl dX12_feed_78 ?_
  refine x_iload C hl dX12_feed_81 rfl ?_
  refine lv_iadd hx hb dX12_feed_83 ?_
  refine x_iload C hl dX12_feed_84 rfl ?_
  refine lv_bipush (v := (24 : Int32)) hx hb dX12_feed_86 (by decide) ?_
  refine lv_bipush (v := (8 : Int32)) hx hb dX12_feed_88 (by decide) ?_
  refine x_iload C hl dX12_feed_90 rfl ?_
  refine lv_iconst (v := (4 : Int32)) hx hb dX12_feed_92 (by decide) ?_
  refine lv_irem hx hb dX12_feed_93 (by decide) ?_
  refine lv_imul hx hb dX12_feed_94 ?_
  refine lv_isub hx hb dX12_feed_95 ?_
  refine lv_ishr hx hb dX12_feed_96 ?_
  refine lv_sipush (v := (255 : Int32)) hx hb dX12_feed_97 (by decide) ?_
  refine lv_iand hx hb dX12_feed_100 ?_
  have t2 := h.1
  replace h := h.2
  have v3 := h.1
  replace h := h.2
  refine x_iast C hW hS t2 v3 dX12_feed_101 (fun H locs hW hS => ?_)
  obtain ⟨s4, e_s4⟩ : ∃ z : Mem, z = (sI σ (mR σ l0 0) ((mI σ l0 1) + l6).toNatClampNeg ((k0 >>> (((24 : Int32) - ((8 : Int32) * (l6 - l6 / (4 : Int32) * (4 : Int32)))) &&& 31)) &&& (255 : Int32))) := ⟨_, rfl⟩
  replace h := h s4 e_s4
  replace hW : Wd G D tc b0 s4 H := by rw [e_s4]; exact hW
  refine x_iinc C hl dX12_feed_102 rfl (v := (1 : Int32)) (by decide) (by decide) rfl (fun ls hl => ?_)
  refine lv_goto hx hb dX12_feed_105 (tgt := 18) rfl ?_
  exact hK18 _ _ _ _ _ hS hW (hl.keep [true, true, true, true, true, true, true, false] rfl) h
set_option maxRecDepth 20000 in
set_option maxHeartbeats 4000000 in
theorem t_X12_feed_18_n {p : Program} {l : Launch} {e : Env} {s : State} {m : MethodId} {args : Array Value} {below : List Frame} {meth : Method} {c : Code} {D : va_G} {tc : Nat → ClassId} {b0 : Nat} {G : Lay} {Qx : Int32 → Mem → Prop} {l0 : Nat} {l1 : Int32} {l2 : Int32} {l3 : Int32} {l4 : Int32} {l5 : Int32} (C : Cx p s m args meth c cX12_feed RX12 8 D tc b0) (hr : meth.sig.returnType = (some FieldType.int)) (n : Nat) : ∀ (l6 : Int32) (σ : Mem) (H : Heap) (locs : List Loc) (ls : Array Slot), va_S (AA b0) s.heap H locs → Wd G D tc b0 σ H → hL b0 ls 8 [some (.inr (.inr l0)), some (.inl l1), some (.inl l2), some (.inl l3), some (.inl l4), some (.inl l5), some (.inl l6), none] → Lp (X_X12_feed_18_s G Qx l0 l1 l2 l3 l4 l5) n (l6, σ) → W p l e rm_X12_feed s m args below meth c H locs 0 0 (MQ below (va_Qi Qx (fun u t => Pw G D tc b0 u t) (AA b0)) args s 0 0 (AA b0)) (F0 m 18 ls []) := by
  have hx := C.1
  have hb := C.2.1
  induction n with
  | zero => intro l6 σ H locs ls hS hW hl h; exact False.elim h
  | succ n hK18 =>
    intro l6 σ H locs ls hS hW hl h
    replace h : X_X12_feed_18_s G Qx l0 l1 l2 l3 l4 l5 (Lp (X_X12_feed_18_s G Qx l0 l1 l2 l3 l4 l5) n) (l6, σ) := h
    unfold X_X12_feed_18_s at h
    refine x_iload C hl dX12_feed_18 rfl ?_
    refine lv_bipush (v := (20 : Int32)) hx hb dX12_feed_20 (by decide) ?_
    refine lv_icmp_ge hx hb dX12_feed_22 (tgt := 108) rfl (fun hc => ?_) (fun hc => ?_)
    · replace h := h.1 hc
      refine x_aload_n C hl dX12_feed_108 rfl ?_
      refine lv_dup hx hb dX12_feed_109 (rv_cat _ _) ?_
      have t1 := h.1
      replace h := h.2
      refine x_get C hW (t := 12) (k := 1) t1 kl_12 (by decide) fl_X12_223 (v := .int (mI σ l0 1)) rfl dX12_feed_110 ?_
      refine lv_bipush (v := (20 : Int32)) hx hb dX12_feed_113 (by decide) ?_
      refine lv_iadd hx hb dX12_feed_115 ?_
      refine x_putI C hW hS (t := 12) (k := 1) t1 kl_12 (by decide) fl_X12_223 rfl rfl rfl rfl dX12_feed_116 (fun H locs hW hS => ?_)
      obtain ⟨s2, e_s2⟩ : ∃ z : Mem, z = (sI σ l0 1 ((mI σ l0 1) + (20 : Int32))) := ⟨_, rfl⟩
      replace h := h s2 e_s2
      replace hW : Wd G D tc b0 s2 H := by rw [e_s2]; exact hW
      refine x_aload_n C hl dX12_feed_119 rfl ?_
      refine x_get C hW (t := 12) (k := 1) t1 kl_12 (by decide) fl_X12_223 (v := .int (mI s2 l0 1)) rfl dX12_feed_120 ?_
      exact r_i C hr hW hS h dX12_feed_123
    · replace h := h.2 hc
      refine x_iload C hl dX12_feed_25 rfl ?_
      refine lv_iconst (v := (4 : Int32)) hx hb dX12_feed_27 (by decide) ?_
      refine lv_icmp_ge hx hb dX12_feed_28 (tgt := 35) rfl (fun hc => ?_) (fun hc => ?_)
      · replace h := h.1 hc
        refine x_iload C hl dX12_feed_35 rfl ?_
        refine lv_bipush (v := (8 : Int32)) hx hb dX12_feed_37 (by decide) ?_
        refine lv_icmp_ge hx hb dX12_feed_39 (tgt := 46) rfl (fun hc => ?_) (fun hc => ?_)
        · replace h := h.1 hc
          refine x_iload C hl dX12_feed_46 rfl ?_
          refine lv_bipush (v := (12 : Int32)) hx hb dX12_feed_48 (by decide) ?_
          refine lv_icmp_ge hx hb dX12_feed_50 (tgt := 57) rfl (fun hc => ?_) (fun hc => ?_)
          · replace h := h.1 hc
            refine x_iload C hl dX12_feed_57 rfl ?_
            refine lv_bipush (v := (16 : Int32)) hx hb dX12_feed_59 (by decide) ?_
            refine lv_icmp_ge hx hb dX12_feed_61 (tgt := 69) rfl (fun hc => ?_) (fun hc => ?_)
            · replace h := h.1 hc
              refine x_iload C hl dX12_feed_69 rfl ?_
              exact t_X12_feed_71 C hr hK18 hS hW (hl.keep [true, true, true, true, true, true, true, false] rfl) h
            · replace h := h.2 hc
              refine x_iload C hl dX12_feed_64 rfl ?_
              refine lv_goto hx hb dX12_feed_66 (tgt := 71) rfl ?_
              exact t_X12_feed_71 C hr hK18 hS hW (hl.keep [true, true, true, true, true, true, true, false] rfl) h
          · replace h := h.2 hc
            refine x_iload_n C hl dX12_feed_53 rfl ?_
            refine lv_goto hx hb dX12_feed_54 (tgt := 71) rfl ?_
            exact t_X12_feed_71 C hr hK18 hS hW (hl.keep [true, true, true, true, true, true, true, false] rfl) h
        · replace h := h.2 hc
          refine x_iload_n C hl dX12_feed_42 rfl ?_
          refine lv_goto hx hb dX12_feed_43 (tgt := 71) rfl ?_
          exact t_X12_feed_71 C hr hK18 hS hW (hl.keep [true, true, true, true, true, true, true, false] rfl) h
      · replace h := h.2 hc
        refine x_iload_n C hl dX12_feed_31 rfl ?_
        refine lv_goto hx hb dX12_feed_32 (tgt := 71) rfl ?_
        exact t_X12_feed_71 C hr hK18 hS hW (hl.keep [true, true, true, true, true, true, true, false] rfl) h
set_option maxRecDepth 20000 in
set_option maxHeartbeats 4000000 in
theorem t_X12_feed_18 {p : Program} {l : Launch} {e : Env} {s : State} {m : MethodId} {args : Array Value} {below : List Frame} {meth : Method} {c : Code} {H : Heap} {locs : List Loc} {D : va_G} {tc : Nat → ClassId} {b0 : Nat} {ls : Array Slot} {G : Lay} {Qx : Int32 → Mem → Prop} {l0 : Nat} {l1 : Int32} {l2 : Int32} {l3 : Int32} {l4 : Int32} {l5 : Int32} {l6 : Int32}  {σ : Mem} (C : Cx p s m args meth c cX12_feed RX12 8 D tc b0) (hr : meth.sig.returnType = (some FieldType.int)) (hS : va_S (AA b0) s.heap H locs) (hW : Wd G D tc b0 σ H) (hl : hL b0 ls 8 [some (.inr (.inr l0)), some (.inl l1), some (.inl l2), some (.inl l3), some (.inl l4), some (.inl l5), some (.inl l6), none]) (h : X_X12_feed_18 G Qx l0 l1 l2 l3 l4 l5 l6 σ) : W p l e rm_X12_feed s m args below meth c H locs 0 0 (MQ below (va_Qi Qx (fun u t => Pw G D tc b0 u t) (AA b0)) args s 0 0 (AA b0)) (F0 m 18 ls []) := by
  obtain ⟨n, h⟩ := h
  exact t_X12_feed_18_n C hr n l6 σ H locs ls hS hW hl h
set_option maxRecDepth 20000 in
set_option maxHeartbeats 4000000 in
theorem t_X12_feed_0 {p : Program} {l : Launch} {e : Env} {s : State} {m : MethodId} {args : Array Value} {below : List Frame} {meth : Method} {c : Code} {H : Heap} {locs : List Loc} {D : va_G} {tc : Nat → ClassId} {b0 : Nat} {ls : Array Slot} {G : Lay} {Qx : Int32 → Mem → Prop} {l0 : Nat} {l1 : Int32} {l2 : Int32} {l3 : Int32} {l4 : Int32} {l5 : Int32}  {σ : Mem} (C : Cx p s m args meth c cX12_feed RX12 8 D tc b0) (hr : meth.sig.returnType = (some FieldType.int)) (hS : va_S (AA b0) s.heap H locs) (hW : Wd G D tc b0 σ H) (hl : hL b0 ls 8 [some (.inr (.inr l0)), some (.inl l1), some (.inl l2), some (.inl l3), some (.inl l4), some (.inl l5), none, none]) (h : X_X12_feed_0 G Qx l0 l1 l2 l3 l4 l5  σ) : W p l e rm_X12_feed s m args below meth c H locs 0 0 (MQ below (va_Qi Qx (fun u t => Pw G D tc b0 u t) (AA b0)) args s 0 0 (AA b0)) (F0 m 0 ls []) := by
  have hx := C.1
  have hb := C.2.1
  unfold X_X12_feed_0 at h
  refine x_aload_n C hl dX12_feed_0 rfl ?_
  have t1 := h.1
  replace h := h.2
  refine x_get C hW (t := 12) (k := 1) t1 kl_12 (by decide) fl_X12_223 (v := .int (mI σ l0 1)) rfl dX12_feed_1 ?_
  refine lv_bipush (v := (20 : Int32)) hx hb dX12_feed_4 (by decide) ?_
  refine lv_iadd hx hb dX12_feed_6 ?_
  refine lv_sipush (v := (3000 : Int32)) hx hb dX12_feed_7 (by decide) ?_
  refine lv_icmp_le hx hb dX12_feed_10 (tgt := 15) rfl (fun hc => ?_) (fun hc => ?_)
  · replace h := h.1 hc
    refine lv_iconst (v := (0 : Int32)) hx hb dX12_feed_15 (by decide) ?_
    refine x_istore C hl dX12_feed_16 (by decide) rfl (fun ls hl => ?_)
    exact t_X12_feed_18 C hr hS hW (hl.keep [true, true, true, true, true, true, true, false] rfl) h
  · replace h := h.2 hc
    refine lv_iconst (v := (-1 : Int32)) hx hb dX12_feed_13 (by decide) ?_
    exact r_i C hr hW hS h dX12_feed_14
theorem T_X12_feed (l : Launch) {G : Lay} {D : va_G} {tc : Nat → ClassId} {b0 : Nat} (l0 : Nat) (l1 : Int32) (l2 : Int32) (l3 : Int32) (l4 : Int32) (l5 : Int32) (σ : Mem) (Qx : Int32 → Mem → Prop) (h : X_X12_feed G Qx l0 l1 l2 l3 l4 l5 σ) : MI l yX12_feed cX12_feed 8 ((some FieldType.int)) rm_X12_feed G D tc b0 [rv b0 l0, .int l1, .int l2, .int l3, .int l4, .int l5] σ Qx :=
  x_entry (y := yX12_feed) [.inr (.inr l0), .inl l1, .inl l2, .inl l3, .inl l4, .inl l5] 2 (by decide) (Nat.le_of_ble_eq_true rfl) (fun p e s m args below meth c ls C hr hW hl => t_X12_feed_0 C hr va_S.rf hW (hl.keep [true, true, true, true, true, true, false, false] rfl) h)
/-! X12_end -/
set_option maxRecDepth 20000 in
set_option maxHeartbeats 4000000 in
theorem t_X12_end_12 {p : Program} {l : Launch} {e : Env} {s : State} {m : MethodId} {args : Array Value} {below : List Frame} {meth : Method} {c : Code} {H : Heap} {locs : List Loc} {D : va_G} {tc : Nat → ClassId} {b0 : Nat} {ls : Array Slot} {G : Lay} {Qx : Int32 → Mem → Prop}   {σ : Mem} (C : Cx p s m args meth c cX12_end RX12 2 D tc b0) (hr : meth.sig.returnType = (some FieldType.int)) (hS : va_S (AA b0) s.heap H locs) (hW : Wd G D tc b0 σ H) (hl : hL b0 ls 2 [none, none]) (h : X_X12_end_12 G Qx   σ) : W p l e rm_X12_end s m args below meth c H locs 0 0 (MQ below (va_Qi Qx (fun u t => Pw G D tc b0 u t) (AA b0)) args s 0 0 (AA b0)) (F0 m 12 ls []) := by
  have hx := C.1
  have hb := C.2.1
  unfold X_X12_end_12 at h
  refine lv_iconst (v := (-1 : Int32)) hx hb dX12_end_12 (by decide) ?_
  exact r_i C hr hW hS h dX12_end_13
set_option maxRecDepth 20000 in
set_option maxHeartbeats 4000000 in
theorem t_X12_end_0 {p : Program} {l : Launch} {e : Env} {s : State} {m : MethodId} {args : Array Value} {below : List Frame} {meth : Method} {c : Code} {H : Heap} {locs : List Loc} {D : va_G} {tc : Nat → ClassId} {b0 : Nat} {ls : Array Slot} {G : Lay} {Qx : Int32 → Mem → Prop} {l0 : Nat} {l1 : Int32}  {σ : Mem} (C : Cx p s m args meth c cX12_end RX12 2 D tc b0) (hr : meth.sig.returnType = (some FieldType.int)) (hS : va_S (AA b0) s.heap H locs) (hW : Wd G D tc b0 σ H) (hl : hL b0 ls 2 [some (.inr (.inr l0)), some (.inl l1)]) (h : X_X12_end_0 G Qx l0 l1  σ) : W p l e rm_X12_end s m args below meth c H locs 0 0 (MQ below (va_Qi Qx (fun u t => Pw G D tc b0 u t) (AA b0)) args s 0 0 (AA b0)) (F0 m 0 ls []) := by
  have hx := C.1
  have hb := C.2.1
  unfold X_X12_end_0 at h
  refine x_iload_n C hl dX12_end_0 rfl ?_
  refine lv_if_lt hx hb dX12_end_1 (tgt := 12) rfl (fun hc => ?_) (fun hc => ?_)
  · replace h := h.1 hc
    exact t_X12_end_12 C hr hS hW (hl.keep [false, false] rfl) h
  · replace h := h.2 hc
    refine x_iload_n C hl dX12_end_4 rfl ?_
    refine x_aload_n C hl dX12_end_5 rfl ?_
    have t1 := h.1
    replace h := h.2
    refine x_get C hW (t := 12) (k := 1) t1 kl_12 (by decide) fl_X12_223 (v := .int (mI σ l0 1)) rfl dX12_end_6 ?_
    refine lv_icmp_le hx hb dX12_end_9 (tgt := 14) rfl (fun hc => ?_) (fun hc => ?_)
    · replace h := h.1 hc
      refine x_aload_n C hl dX12_end_14 rfl ?_
      refine x_iload_n C hl dX12_end_15 rfl ?_
      refine x_putI C hW hS (t := 12) (k := 1) t1 kl_12 (by decide) fl_X12_223 rfl rfl rfl rfl dX12_end_16 (fun H locs hW hS => ?_)
      obtain ⟨s2, e_s2⟩ : ∃ z : Mem, z = (sI σ l0 1 l1) := ⟨_, rfl⟩
      replace h := h s2 e_s2
      replace hW : Wd G D tc b0 s2 H := by rw [e_s2]; exact hW
      refine x_iload_n C hl dX12_end_19 rfl ?_
      exact r_i C hr hW hS h dX12_end_20
    · replace h := h.2 hc
      exact t_X12_end_12 C hr hS hW (hl.keep [false, false] rfl) h
theorem T_X12_end (l : Launch) {G : Lay} {D : va_G} {tc : Nat → ClassId} {b0 : Nat} (l0 : Nat) (l1 : Int32) (σ : Mem) (Qx : Int32 → Mem → Prop) (h : X_X12_end G Qx l0 l1 σ) : MI l yX12_end cX12_end 2 ((some FieldType.int)) rm_X12_end G D tc b0 [rv b0 l0, .int l1] σ Qx :=
  x_entry (y := yX12_end) [.inr (.inr l0), .inl l1] 0 (by decide) (Nat.le_of_ble_eq_true rfl) (fun p e s m args below meth c ls C hr hW hl => t_X12_end_0 C hr va_S.rf hW (hl.keep [true, true] rfl) h)
/-! X12_letterOf -/
set_option maxRecDepth 20000 in
set_option maxHeartbeats 4000000 in
theorem t_X12_letterOf_64 {p : Program} {l : Launch} {e : Env} {s : State} {m : MethodId} {args : Array Value} {below : List Frame} {meth : Method} {c : Code} {H : Heap} {locs : List Loc} {D : va_G} {tc : Nat → ClassId} {b0 : Nat} {ls : Array Slot} {G : Lay} {Qx : Int32 → Mem → Prop}  {k0 : Int32} {σ : Mem} (C : Cx p s m args meth c cX12_letterOf RX12 1 D tc b0) (hr : meth.sig.returnType = (some FieldType.int)) (hS : va_S (AA b0) s.heap H locs) (hW : Wd G D tc b0 σ H) (hl : hL b0 ls 1 [none]) (h : X_X12_letterOf_64 G Qx  k0 σ) : W p l e rm_X12_letterOf s m args below meth c H locs 0 0 (MQ below (va_Qi Qx (fun u t => Pw G D tc b0 u t) (AA b0)) args s 0 0 (AA b0)) (F0 m 64 ls [.int k0]) := by
  have hx := C.1
  have hb := C.2.1
  unfold X_X12_letterOf_64 at h
  exact r_i C hr hW hS h dX12_letterOf_64
set_option maxRecDepth 20000 in
set_option maxHeartbeats 4000000 in
theorem t_X12_letterOf_63 {p : Program} {l : Launch} {e : Env} {s : State} {m : MethodId} {args : Array Value} {below : List Frame} {meth : Method} {c : Code} {H : Heap} {locs : List Loc} {D : va_G} {tc : Nat → ClassId} {b0 : Nat} {ls : Array Slot} {G : Lay} {Qx : Int32 → Mem → Prop}   {σ : Mem} (C : Cx p s m args meth c cX12_letterOf RX12 1 D tc b0) (hr : meth.sig.returnType = (some FieldType.int)) (hS : va_S (AA b0) s.heap H locs) (hW : Wd G D tc b0 σ H) (hl : hL b0 ls 1 [none]) (h : X_X12_letterOf_63 G Qx   σ) : W p l e rm_X12_letterOf s m args below meth c H locs 0 0 (MQ below (va_Qi Qx (fun u t => Pw G D tc b0 u t) (AA b0)) args s 0 0 (AA b0)) (F0 m 63 ls []) := by
  have hx := C.1
  have hb := C.2.1
  unfold X_X12_letterOf_63 at h
  refine lv_iconst (v := (0 : Int32)) hx hb dX12_letterOf_63 (by decide) ?_
  exact t_X12_letterOf_64 C hr hS hW (hl.keep [false] rfl) h
set_option maxRecDepth 20000 in
set_option maxHeartbeats 4000000 in
theorem t_X12_letterOf_41 {p : Program} {l : Launch} {e : Env} {s : State} {m : MethodId} {args : Array Value} {below : List Frame} {meth : Method} {c : Code} {H : Heap} {locs : List Loc} {D : va_G} {tc : Nat → ClassId} {b0 : Nat} {ls : Array Slot} {G : Lay} {Qx : Int32 → Mem → Prop} {l0 : Int32}  {σ : Mem} (C : Cx p s m args meth c cX12_letterOf RX12 1 D tc b0) (hr : meth.sig.returnType = (some FieldType.int)) (hS : va_S (AA b0) s.heap H locs) (hW : Wd G D tc b0 σ H) (hl : hL b0 ls 1 [some (.inl l0)]) (h : X_X12_letterOf_41 G Qx l0  σ) : W p l e rm_X12_letterOf s m args below meth c H locs 0 0 (MQ below (va_Qi Qx (fun u t => Pw G D tc b0 u t) (AA b0)) args s 0 0 (AA b0)) (F0 m 41 ls []) := by
  have hx := C.1
  have hb := C.2.1
  unfold X_X12_letterOf_41 at h
  refine x_iload_n C hl dX12_letterOf_41 rfl ?_
  refine lv_bipush (v := (48 : Int32)) hx hb dX12_letterOf_42 (by decide) ?_
  refine lv_icmp_lt hx hb dX12_letterOf_44 (tgt := 63) rfl (fun hc => ?_) (fun hc => ?_)
  · replace h := h.1 hc
    exact t_X12_letterOf_63 C hr hS hW (hl.keep [false] rfl) h
  · replace h := h.2 hc
    refine x_iload_n C hl dX12_letterOf_47 rfl ?_
    refine lv_bipush (v := (57 : Int32)) hx hb dX12_letterOf_48 (by decide) ?_
    refine lv_icmp_gt hx hb dX12_letterOf_50 (tgt := 63) rfl (fun hc => ?_) (fun hc => ?_)
    · replace h := h.1 hc
      exact t_X12_letterOf_63 C hr hS hW (hl.keep [false] rfl) h
    · replace h := h.2 hc
      refine x_iload_n C hl dX12_letterOf_53 rfl ?_
      refine lv_bipush (v := (47 : Int32)) hx hb dX12_letterOf_54 (by decide) ?_
      refine lv_isub hx hb dX12_letterOf_56 ?_
      refine lv_bipush (v := (52 : Int32)) hx hb dX12_letterOf_57 (by decide) ?_
      refine lv_iadd hx hb dX12_letterOf_59 ?_
      refine lv_goto hx hb dX12_letterOf_60 (tgt := 64) rfl ?_
      exact t_X12_letterOf_64 C hr hS hW (hl.keep [false] rfl) h
set_option maxRecDepth 20000 in
set_option maxHeartbeats 4000000 in
theorem t_X12_letterOf_19 {p : Program} {l : Launch} {e : Env} {s : State} {m : MethodId} {args : Array Value} {below : List Frame} {meth : Method} {c : Code} {H : Heap} {locs : List Loc} {D : va_G} {tc : Nat → ClassId} {b0 : Nat} {ls : Array Slot} {G : Lay} {Qx : Int32 → Mem → Prop} {l0 : Int32}  {σ : Mem} (C : Cx p s m args meth c cX12_letterOf RX12 1 D tc b0) (hr : meth.sig.returnType = (some FieldType.int)) (hS : va_S (AA b0) s.heap H locs) (hW : Wd G D tc b0 σ H) (hl : hL b0 ls 1 [some (.inl l0)]) (h : X_X12_letterOf_19 G Qx l0  σ) : W p l e rm_X12_letterOf s m args below meth c H locs 0 0 (MQ below (va_Qi Qx (fun u t => Pw G D tc b0 u t) (AA b0)) args s 0 0 (AA b0)) (F0 m 19 ls []) := by
  have hx := C.1
  have hb := C.2.1
  unfold X_X12_letterOf_19 at h
  refine x_iload_n C hl dX12_letterOf_19 rfl ?_
  refine lv_bipush (v := (65 : Int32)) hx hb dX12_letterOf_20 (by decide) ?_
  refine lv_icmp_lt hx hb dX12_letterOf_22 (tgt := 41) rfl (fun hc => ?_) (fun hc => ?_)
  · replace h := h.1 hc
    exact t_X12_letterOf_41 C hr hS hW (hl.keep [true] rfl) h
  · replace h := h.2 hc
    refine x_iload_n C hl dX12_letterOf_25 rfl ?_
    refine lv_bipush (v := (90 : Int32)) hx hb dX12_letterOf_26 (by decide) ?_
    refine lv_icmp_gt hx hb dX12_letterOf_28 (tgt := 41) rfl (fun hc => ?_) (fun hc => ?_)
    · replace h := h.1 hc
      exact t_X12_letterOf_41 C hr hS hW (hl.keep [true] rfl) h
    · replace h := h.2 hc
      refine x_iload_n C hl dX12_letterOf_31 rfl ?_
      refine lv_bipush (v := (64 : Int32)) hx hb dX12_letterOf_32 (by decide) ?_
      refine lv_isub hx hb dX12_letterOf_34 ?_
      refine lv_bipush (v := (26 : Int32)) hx hb dX12_letterOf_35 (by decide) ?_
      refine lv_iadd hx hb dX12_letterOf_37 ?_
      refine lv_goto hx hb dX12_letterOf_38 (tgt := 64) rfl ?_
      exact t_X12_letterOf_64 C hr hS hW (hl.keep [false] rfl) h
set_option maxRecDepth 20000 in
set_option maxHeartbeats 4000000 in
theorem t_X12_letterOf_0 {p : Program} {l : Launch} {e : Env} {s : State} {m : MethodId} {args : Array Value} {below : List Frame} {meth : Method} {c : Code} {H : Heap} {locs : List Loc} {D : va_G} {tc : Nat → ClassId} {b0 : Nat} {ls : Array Slot} {G : Lay} {Qx : Int32 → Mem → Prop} {l0 : Int32}  {σ : Mem} (C : Cx p s m args meth c cX12_letterOf RX12 1 D tc b0) (hr : meth.sig.returnType = (some FieldType.int)) (hS : va_S (AA b0) s.heap H locs) (hW : Wd G D tc b0 σ H) (hl : hL b0 ls 1 [some (.inl l0)]) (h : X_X12_letterOf_0 G Qx l0  σ) : W p l e rm_X12_letterOf s m args below meth c H locs 0 0 (MQ below (va_Qi Qx (fun u t => Pw G D tc b0 u t) (AA b0)) args s 0 0 (AA b0)) (F0 m 0 ls []) := by
  have hx := C.1
  have hb := C.2.1
  unfold X_X12_letterOf_0 at h
  refine x_iload_n C hl dX12_letterOf_0 rfl ?_
  refine lv_bipush (v := (97 : Int32)) hx hb dX12_letterOf_1 (by decide) ?_
  refine lv_icmp_lt hx hb dX12_letterOf_3 (tgt := 19) rfl (fun hc => ?_) (fun hc => ?_)
  · replace h := h.1 hc
    exact t_X12_letterOf_19 C hr hS hW (hl.keep [true] rfl) h
  · replace h := h.2 hc
    refine x_iload_n C hl dX12_letterOf_6 rfl ?_
    refine lv_bipush (v := (122 : Int32)) hx hb dX12_letterOf_7 (by decide) ?_
    refine lv_icmp_gt hx hb dX12_letterOf_9 (tgt := 19) rfl (fun hc => ?_) (fun hc => ?_)
    · replace h := h.1 hc
      exact t_X12_letterOf_19 C hr hS hW (hl.keep [true] rfl) h
    · replace h := h.2 hc
      refine x_iload_n C hl dX12_letterOf_12 rfl ?_
      refine lv_bipush (v := (96 : Int32)) hx hb dX12_letterOf_13 (by decide) ?_
      refine lv_isub hx hb dX12_letterOf_15 ?_
      refine lv_goto hx hb dX12_letterOf_16 (tgt := 64) rfl ?_
      exact t_X12_letterOf_64 C hr hS hW (hl.keep [false] rfl) h
theorem T_X12_letterOf (l : Launch) {G : Lay} {D : va_G} {tc : Nat → ClassId} {b0 : Nat} (l0 : Int32) (σ : Mem) (Qx : Int32 → Mem → Prop) (h : X_X12_letterOf G Qx l0 σ) : MI l yX12_letterOf cX12_letterOf 1 ((some FieldType.int)) rm_X12_letterOf G D tc b0 [.int l0] σ Qx :=
  x_entry (y := yX12_letterOf) [.inl l0] 0 (by decide) (Nat.le_of_ble_eq_true rfl) (fun p e s m args below meth c ls C hr hW hl => t_X12_letterOf_0 C hr va_S.rf hW (hl.keep [true] rfl) h)
/-! X12_see -/
set_option maxRecDepth 20000 in
set_option maxHeartbeats 4000000 in
theorem t_X12_see_18 {p : Program} {l : Launch} {e : Env} {s : State} {m : MethodId} {args : Array Value} {below : List Frame} {meth : Method} {c : Code} {H : Heap} {locs : List Loc} {D : va_G} {tc : Nat → ClassId} {b0 : Nat} {ls : Array Slot} {G : Lay} {Qx : Int32 → Mem → Prop}  {k0 : Int32} {σ : Mem} (C : Cx p s m args meth c cX12_see RX12 2 D tc b0) (hr : meth.sig.returnType = (some FieldType.int)) (hS : va_S (AA b0) s.heap H locs) (hW : Wd G D tc b0 σ H) (hl : hL b0 ls 2 [none, none]) (h : X_X12_see_18 G Qx  k0 σ) : W p l e rm_X12_see s m args below meth c H locs 0 0 (MQ below (va_Qi Qx (fun u t => Pw G D tc b0 u t) (AA b0)) args s 0 0 (AA b0)) (F0 m 18 ls [.int k0]) := by
  have hx := C.1
  have hb := C.2.1
  unfold X_X12_see_18 at h
  exact r_i C hr hW hS h dX12_see_18
set_option maxRecDepth 20000 in
set_option maxHeartbeats 4000000 in
theorem t_X12_see_0 {p : Program} {l : Launch} {e : Env} {s : State} {m : MethodId} {args : Array Value} {below : List Frame} {meth : Method} {c : Code} {H : Heap} {locs : List Loc} {D : va_G} {tc : Nat → ClassId} {b0 : Nat} {ls : Array Slot} {G : Lay} {Qx : Int32 → Mem → Prop} {l0 : Nat} {l1 : Int32}  {σ : Mem} (C : Cx p s m args meth c cX12_see RX12 2 D tc b0) (hr : meth.sig.returnType = (some FieldType.int)) (hS : va_S (AA b0) s.heap H locs) (hW : Wd G D tc b0 σ H) (hl : hL b0 ls 2 [some (.inr (.inr l0)), some (.inl l1)]) (h : X_X12_see_0 G Qx l0 l1  σ) : W p l e rm_X12_see s m args below meth c H locs 0 0 (MQ below (va_Qi Qx (fun u t => Pw G D tc b0 u t) (AA b0)) args s 0 0 (AA b0)) (F0 m 0 ls []) := by
  have hx := C.1
  have hb := C.2.1
  unfold X_X12_see_0 at h
  refine x_iload_n C hl dX12_see_0 rfl ?_
  refine x_aload_n C hl dX12_see_1 rfl ?_
  have t1 := h.1
  replace h := h.2
  refine x_get C hW (t := 12) (k := 1) t1 kl_12 (by decide) fl_X12_223 (v := .int (mI σ l0 1)) rfl dX12_see_2 ?_
  refine lv_icmp_ge hx hb dX12_see_5 (tgt := 17) rfl (fun hc => ?_) (fun hc => ?_)
  · replace h := h.1 hc
    refine lv_iconst (v := (-1 : Int32)) hx hb dX12_see_17 (by decide) ?_
    exact t_X12_see_18 C hr hS hW (hl.keep [false, false] rfl) h
  · replace h := h.2 hc
    refine x_aload_n C hl dX12_see_8 rfl ?_
    refine x_get C hW (t := 12) (k := 0) t1 kl_12 (by decide) fl_X12_7 (v := rv b0 (mR σ l0 0)) rfl dX12_see_9 ?_
    refine x_iload_n C hl dX12_see_12 rfl ?_
    have t2 := h.1
    replace h := h.2
    have v3 := h.1
    replace h := h.2
    refine x_iald C hW t2 v3 dX12_see_13 ?_
    refine lv_goto hx hb dX12_see_14 (tgt := 18) rfl ?_
    exact t_X12_see_18 C hr hS hW (hl.keep [false, false] rfl) h
theorem T_X12_see (l : Launch) {G : Lay} {D : va_G} {tc : Nat → ClassId} {b0 : Nat} (l0 : Nat) (l1 : Int32) (σ : Mem) (Qx : Int32 → Mem → Prop) (h : X_X12_see G Qx l0 l1 σ) : MI l yX12_see cX12_see 2 ((some FieldType.int)) rm_X12_see G D tc b0 [rv b0 l0, .int l1] σ Qx :=
  x_entry (y := yX12_see) [.inr (.inr l0), .inl l1] 0 (by decide) (Nat.le_of_ble_eq_true rfl) (fun p e s m args below meth c ls C hr hW hl => t_X12_see_0 C hr va_S.rf hW (hl.keep [true, true] rfl) h)
/-! X12_isBlank -/
set_option maxRecDepth 20000 in
set_option maxHeartbeats 4000000 in
theorem t_X12_isBlank_29 {p : Program} {l : Launch} {e : Env} {s : State} {m : MethodId} {args : Array Value} {below : List Frame} {meth : Method} {c : Code} {H : Heap} {locs : List Loc} {D : va_G} {tc : Nat → ClassId} {b0 : Nat} {ls : Array Slot} {G : Lay} {Qx : Int32 → Mem → Prop}  {k0 : Int32} {σ : Mem} (C : Cx p s m args meth c cX12_isBlank RX12 1 D tc b0) (hr : meth.sig.returnType = (some FieldType.boolean)) (hS : va_S (AA b0) s.heap H locs) (hW : Wd G D tc b0 σ H) (hl : hL b0 ls 1 [none]) (h : X_X12_isBlank_29 G Qx  k0 σ) : W p l e rm_X12_isBlank s m args below meth c H locs 0 0 (MQ below (va_Qi Qx (fun u t => Pw G D tc b0 u t) (AA b0)) args s 0 0 (AA b0)) (F0 m 29 ls [.int k0]) := by
  have hx := C.1
  have hb := C.2.1
  unfold X_X12_isBlank_29 at h
  exact r_z C hr hW hS h.1 h.2 dX12_isBlank_29
set_option maxRecDepth 20000 in
set_option maxHeartbeats 4000000 in
theorem t_X12_isBlank_24 {p : Program} {l : Launch} {e : Env} {s : State} {m : MethodId} {args : Array Value} {below : List Frame} {meth : Method} {c : Code} {H : Heap} {locs : List Loc} {D : va_G} {tc : Nat → ClassId} {b0 : Nat} {ls : Array Slot} {G : Lay} {Qx : Int32 → Mem → Prop}   {σ : Mem} (C : Cx p s m args meth c cX12_isBlank RX12 1 D tc b0) (hr : meth.sig.returnType = (some FieldType.boolean)) (hS : va_S (AA b0) s.heap H locs) (hW : Wd G D tc b0 σ H) (hl : hL b0 ls 1 [none]) (h : X_X12_isBlank_24 G Qx   σ) : W p l e rm_X12_isBlank s m args below meth c H locs 0 0 (MQ below (va_Qi Qx (fun u t => Pw G D tc b0 u t) (AA b0)) args s 0 0 (AA b0)) (F0 m 24 ls []) := by
  have hx := C.1
  have hb := C.2.1
  unfold X_X12_isBlank_24 at h
  refine lv_iconst (v := (1 : Int32)) hx hb dX12_isBlank_24 (by decide) ?_
  refine lv_goto hx hb dX12_isBlank_25 (tgt := 29) rfl ?_
  exact t_X12_isBlank_29 C hr hS hW (hl.keep [false] rfl) h
set_option maxRecDepth 20000 in
set_option maxHeartbeats 4000000 in
theorem t_X12_isBlank_0 {p : Program} {l : Launch} {e : Env} {s : State} {m : MethodId} {args : Array Value} {below : List Frame} {meth : Method} {c : Code} {H : Heap} {locs : List Loc} {D : va_G} {tc : Nat → ClassId} {b0 : Nat} {ls : Array Slot} {G : Lay} {Qx : Int32 → Mem → Prop} {l0 : Int32}  {σ : Mem} (C : Cx p s m args meth c cX12_isBlank RX12 1 D tc b0) (hr : meth.sig.returnType = (some FieldType.boolean)) (hS : va_S (AA b0) s.heap H locs) (hW : Wd G D tc b0 σ H) (hl : hL b0 ls 1 [some (.inl l0)]) (h : X_X12_isBlank_0 G Qx l0  σ) : W p l e rm_X12_isBlank s m args below meth c H locs 0 0 (MQ below (va_Qi Qx (fun u t => Pw G D tc b0 u t) (AA b0)) args s 0 0 (AA b0)) (F0 m 0 ls []) := by
  have hx := C.1
  have hb := C.2.1
  unfold X_X12_isBlank_0 at h
  refine x_iload_n C hl dX12_isBlank_0 rfl ?_
  refine lv_bipush (v := (9 : Int32)) hx hb dX12_isBlank_1 (by decide) ?_
  refine lv_icmp_eq hx hb dX12_isBlank_3 (tgt := 24) rfl (fun hc => ?_) (fun hc => ?_)
  · replace h := h.1 hc
    exact t_X12_isBlank_24 C hr hS hW (hl.keep [false] rfl) h
  · replace h := h.2 hc
    refine x_iload_n C hl dX12_isBlank_6 rfl ?_
    refine lv_bipush (v := (10 : Int32)) hx hb dX12_isBlank_7 (by decide) ?_
    refine lv_icmp_eq hx hb dX12_isBlank_9 (tgt := 24) rfl (fun hc => ?_) (fun hc => ?_)
    · replace h := h.1 hc
      exact t_X12_isBlank_24 C hr hS hW (hl.keep [false] rfl) h
    · replace h := h.2 hc
      refine x_iload_n C hl dX12_isBlank_12 rfl ?_
      refine lv_bipush (v := (13 : Int32)) hx hb dX12_isBlank_13 (by decide) ?_
      refine lv_icmp_eq hx hb dX12_isBlank_15 (tgt := 24) rfl (fun hc => ?_) (fun hc => ?_)
      · replace h := h.1 hc
        exact t_X12_isBlank_24 C hr hS hW (hl.keep [false] rfl) h
      · replace h := h.2 hc
        refine x_iload_n C hl dX12_isBlank_18 rfl ?_
        refine lv_bipush (v := (32 : Int32)) hx hb dX12_isBlank_19 (by decide) ?_
        refine lv_icmp_ne hx hb dX12_isBlank_21 (tgt := 28) rfl (fun hc => ?_) (fun hc => ?_)
        · replace h := h.2 hc
          refine lv_iconst (v := (0 : Int32)) hx hb dX12_isBlank_28 (by decide) ?_
          exact t_X12_isBlank_29 C hr hS hW (hl.keep [false] rfl) h
        · replace h := h.1 hc
          exact t_X12_isBlank_24 C hr hS hW (hl.keep [false] rfl) h
theorem T_X12_isBlank (l : Launch) {G : Lay} {D : va_G} {tc : Nat → ClassId} {b0 : Nat} (l0 : Int32) (σ : Mem) (Qx : Int32 → Mem → Prop) (h : X_X12_isBlank G Qx l0 σ) : MI l yX12_isBlank cX12_isBlank 1 ((some FieldType.boolean)) rm_X12_isBlank G D tc b0 [.int l0] σ Qx :=
  x_entry (y := yX12_isBlank) [.inl l0] 0 (by decide) (Nat.le_of_ble_eq_true rfl) (fun p e s m args below meth c ls C hr hW hl => t_X12_isBlank_0 C hr va_S.rf hW (hl.keep [true] rfl) h)
/-! X12_isSign -/
set_option maxRecDepth 20000 in
set_option maxHeartbeats 4000000 in
theorem t_X12_isSign_83 {p : Program} {l : Launch} {e : Env} {s : State} {m : MethodId} {args : Array Value} {below : List Frame} {meth : Method} {c : Code} {H : Heap} {locs : List Loc} {D : va_G} {tc : Nat → ClassId} {b0 : Nat} {ls : Array Slot} {G : Lay} {Qx : Int32 → Mem → Prop}  {k0 : Int32} {σ : Mem} (C : Cx p s m args meth c cX12_isSign RX12 1 D tc b0) (hr : meth.sig.returnType = (some FieldType.boolean)) (hS : va_S (AA b0) s.heap H locs) (hW : Wd G D tc b0 σ H) (hl : hL b0 ls 1 [none]) (h : X_X12_isSign_83 G Qx  k0 σ) : W p l e rm_X12_isSign s m args below meth c H locs 0 0 (MQ below (va_Qi Qx (fun u t => Pw G D tc b0 u t) (AA b0)) args s 0 0 (AA b0)) (F0 m 83 ls [.int k0]) := by
  have hx := C.1
  have hb := C.2.1
  unfold X_X12_isSign_83 at h
  exact r_z C hr hW hS h.1 h.2 dX12_isSign_83
set_option maxRecDepth 20000 in
set_option maxHeartbeats 4000000 in
theorem t_X12_isSign_78 {p : Program} {l : Launch} {e : Env} {s : State} {m : MethodId} {args : Array Value} {below : List Frame} {meth : Method} {c : Code} {H : Heap} {locs : List Loc} {D : va_G} {tc : Nat → ClassId} {b0 : Nat} {ls : Array Slot} {G : Lay} {Qx : Int32 → Mem → Prop}   {σ : Mem} (C : Cx p s m args meth c cX12_isSign RX12 1 D tc b0) (hr : meth.sig.returnType = (some FieldType.boolean)) (hS : va_S (AA b0) s.heap H locs) (hW : Wd G D tc b0 σ H) (hl : hL b0 ls 1 [none]) (h : X_X12_isSign_78 G Qx   σ) : W p l e rm_X12_isSign s m args below meth c H locs 0 0 (MQ below (va_Qi Qx (fun u t => Pw G D tc b0 u t) (AA b0)) args s 0 0 (AA b0)) (F0 m 78 ls []) := by
  have hx := C.1
  have hb := C.2.1
  unfold X_X12_isSign_78 at h
  refine lv_iconst (v := (1 : Int32)) hx hb dX12_isSign_78 (by decide) ?_
  refine lv_goto hx hb dX12_isSign_79 (tgt := 83) rfl ?_
  exact t_X12_isSign_83 C hr hS hW (hl.keep [false] rfl) h
set_option maxRecDepth 20000 in
set_option maxHeartbeats 4000000 in
theorem t_X12_isSign_0 {p : Program} {l : Launch} {e : Env} {s : State} {m : MethodId} {args : Array Value} {below : List Frame} {meth : Method} {c : Code} {H : Heap} {locs : List Loc} {D : va_G} {tc : Nat → ClassId} {b0 : Nat} {ls : Array Slot} {G : Lay} {Qx : Int32 → Mem → Prop} {l0 : Int32}  {σ : Mem} (C : Cx p s m args meth c cX12_isSign RX12 1 D tc b0) (hr : meth.sig.returnType = (some FieldType.boolean)) (hS : va_S (AA b0) s.heap H locs) (hW : Wd G D tc b0 σ H) (hl : hL b0 ls 1 [some (.inl l0)]) (h : X_X12_isSign_0 G Qx l0  σ) : W p l e rm_X12_isSign s m args below meth c H locs 0 0 (MQ below (va_Qi Qx (fun u t => Pw G D tc b0 u t) (AA b0)) args s 0 0 (AA b0)) (F0 m 0 ls []) := by
  have hx := C.1
  have hb := C.2.1
  unfold X_X12_isSign_0 at h
  refine x_iload_n C hl dX12_isSign_0 rfl ?_
  refine lv_bipush (v := (123 : Int32)) hx hb dX12_isSign_1 (by decide) ?_
  refine lv_icmp_eq hx hb dX12_isSign_3 (tgt := 78) rfl (fun hc => ?_) (fun hc => ?_)
  · replace h := h.1 hc
    exact t_X12_isSign_78 C hr hS hW (hl.keep [false] rfl) h
  · replace h := h.2 hc
    refine x_iload_n C hl dX12_isSign_6 rfl ?_
    refine lv_bipush (v := (125 : Int32)) hx hb dX12_isSign_7 (by decide) ?_
    refine lv_icmp_eq hx hb dX12_isSign_9 (tgt := 78) rfl (fun hc => ?_) (fun hc => ?_)
    · replace h := h.1 hc
      exact t_X12_isSign_78 C hr hS hW (hl.keep [false] rfl) h
    · replace h := h.2 hc
      refine x_iload_n C hl dX12_isSign_12 rfl ?_
      refine lv_bipush (v := (40 : Int32)) hx hb dX12_isSign_13 (by decide) ?_
      refine lv_icmp_eq hx hb dX12_isSign_15 (tgt := 78) rfl (fun hc => ?_) (fun hc => ?_)
      · replace h := h.1 hc
        exact t_X12_isSign_78 C hr hS hW (hl.keep [false] rfl) h
      · replace h := h.2 hc
        refine x_iload_n C hl dX12_isSign_18 rfl ?_
        refine lv_bipush (v := (41 : Int32)) hx hb dX12_isSign_19 (by decide) ?_
        refine lv_icmp_eq hx hb dX12_isSign_21 (tgt := 78) rfl (fun hc => ?_) (fun hc => ?_)
        · replace h := h.1 hc
          exact t_X12_isSign_78 C hr hS hW (hl.keep [false] rfl) h
        · replace h := h.2 hc
          refine x_iload_n C hl dX12_isSign_24 rfl ?_
          refine lv_bipush (v := (58 : Int32)) hx hb dX12_isSign_25 (by decide) ?_
          refine lv_icmp_eq hx hb dX12_isSign_27 (tgt := 78) rfl (fun hc => ?_) (fun hc => ?_)
          · replace h := h.1 hc
            exact t_X12_isSign_78 C hr hS hW (hl.keep [false] rfl) h
          · replace h := h.2 hc
            refine x_iload_n C hl dX12_isSign_30 rfl ?_
            refine lv_bipush (v := (59 : Int32)) hx hb dX12_isSign_31 (by decide) ?_
            refine lv_icmp_eq hx hb dX12_isSign_33 (tgt := 78) rfl (fun hc => ?_) (fun hc => ?_)
            · replace h := h.1 hc
              exact t_X12_isSign_78 C hr hS hW (hl.keep [false] rfl) h
            · replace h := h.2 hc
              refine x_iload_n C hl dX12_isSign_36 rfl ?_
              refine lv_bipush (v := (44 : Int32)) hx hb dX12_isSign_37 (by decide) ?_
              refine lv_icmp_eq hx hb dX12_isSign_39 (tgt := 78) rfl (fun hc => ?_) (fun hc => ?_)
              · replace h := h.1 hc
                exact t_X12_isSign_78 C hr hS hW (hl.keep [false] rfl) h
              · replace h := h.2 hc
                refine x_iload_n C hl dX12_isSign_42 rfl ?_
                refine lv_bipush (v := (46 : Int32)) hx hb dX12_isSign_43 (by decide) ?_
                refine lv_icmp_eq hx hb dX12_isSign_45 (tgt := 78) rfl (fun hc => ?_) (fun hc => ?_)
                · replace h := h.1 hc
                  exact t_X12_isSign_78 C hr hS hW (hl.keep [false] rfl) h
                · replace h := h.2 hc
                  refine x_iload_n C hl dX12_isSign_48 rfl ?_
                  refine lv_bipush (v := (61 : Int32)) hx hb dX12_isSign_49 (by decide) ?_
                  refine lv_icmp_eq hx hb dX12_isSign_51 (tgt := 78) rfl (fun hc => ?_) (fun hc => ?_)
                  · replace h := h.1 hc
                    exact t_X12_isSign_78 C hr hS hW (hl.keep [false] rfl) h
                  · replace h := h.2 hc
                    refine x_iload_n C hl dX12_isSign_54 rfl ?_
                    refine lv_bipush (v := (60 : Int32)) hx hb dX12_isSign_55 (by decide) ?_
                    refine lv_icmp_eq hx hb dX12_isSign_57 (tgt := 78) rfl (fun hc => ?_) (fun hc => ?_)
                    · replace h := h.1 hc
                      exact t_X12_isSign_78 C hr hS hW (hl.keep [false] rfl) h
                    · replace h := h.2 hc
                      refine x_iload_n C hl dX12_isSign_60 rfl ?_
                      refine lv_bipush (v := (62 : Int32)) hx hb dX12_isSign_61 (by decide) ?_
                      refine lv_icmp_eq hx hb dX12_isSign_63 (tgt := 78) rfl (fun hc => ?_) (fun hc => ?_)
                      · replace h := h.1 hc
                        exact t_X12_isSign_78 C hr hS hW (hl.keep [false] rfl) h
                      · replace h := h.2 hc
                        refine x_iload_n C hl dX12_isSign_66 rfl ?_
                        refine lv_bipush (v := (43 : Int32)) hx hb dX12_isSign_67 (by decide) ?_
                        refine lv_icmp_eq hx hb dX12_isSign_69 (tgt := 78) rfl (fun hc => ?_) (fun hc => ?_)
                        · replace h := h.1 hc
                          exact t_X12_isSign_78 C hr hS hW (hl.keep [false] rfl) h
                        · replace h := h.2 hc
                          refine x_iload_n C hl dX12_isSign_72 rfl ?_
                          refine lv_bipush (v := (45 : Int32)) hx hb dX12_isSign_73 (by decide) ?_
                          refine lv_icmp_ne hx hb dX12_isSign_75 (tgt := 82) rfl (fun hc => ?_) (fun hc => ?_)
                          · replace h := h.2 hc
                            refine lv_iconst (v := (0 : Int32)) hx hb dX12_isSign_82 (by decide) ?_
                            exact t_X12_isSign_83 C hr hS hW (hl.keep [false] rfl) h
                          · replace h := h.1 hc
                            exact t_X12_isSign_78 C hr hS hW (hl.keep [false] rfl) h
theorem T_X12_isSign (l : Launch) {G : Lay} {D : va_G} {tc : Nat → ClassId} {b0 : Nat} (l0 : Int32) (σ : Mem) (Qx : Int32 → Mem → Prop) (h : X_X12_isSign G Qx l0 σ) : MI l yX12_isSign cX12_isSign 1 ((some FieldType.boolean)) rm_X12_isSign G D tc b0 [.int l0] σ Qx :=
  x_entry (y := yX12_isSign) [.inl l0] 0 (by decide) (Nat.le_of_ble_eq_true rfl) (fun p e s m args below meth c ls C hr hW hl => t_X12_isSign_0 C hr va_S.rf hW (hl.keep [true] rfl) h)
/-! X12_advance -/
set_option maxRecDepth 20000 in
set_option maxHeartbeats 4000000 in
theorem t_X12_advance_142 {p : Program} {l : Launch} {e : Env} {s : State} {m : MethodId} {args : Array Value} {below : List Frame} {meth : Method} {c : Code} {H : Heap} {locs : List Loc} {D : va_G} {tc : Nat → ClassId} {b0 : Nat} {ls : Array Slot} {G : Lay} {Qx : Mem → Prop} {l0 : Nat} {l3 : Int32}  {K86 : Int32 × Mem → Prop} {σ : Mem} (C : Cx p s m args meth c cX12_advance RX12 4 D tc b0) (hr : meth.sig.returnType = (none : Option FieldType)) (hK86 : ∀ (x3 : Int32) (σ : Mem) (H : Heap) (locs : List Loc) (ls : Array Slot), va_S (AA b0) s.heap H locs → Wd G D tc b0 σ H → hL b0 ls 4 [some (.inr (.inr l0)), none, none, some (.inl x3)] → K86 (x3, σ) → W p l e rm_X12_advance s m args below meth c H locs 0 0 (MQ below (va_Qv Qx (fun u t => Pw G D tc b0 u t) (AA b0)) args s 0 0 (AA b0)) (F0 m 86 ls [])) (hS : va_S (AA b0) s.heap H locs) (hW : Wd G D tc b0 σ H) (hl : hL b0 ls 4 [some (.inr (.inr l0)), none, none, some (.inl l3)]) (h : X_X12_advance_142 G Qx K86 l0 l3  σ) : W p l e rm_X12_advance s m args below meth c H locs 0 0 (MQ below (va_Qv Qx (fun u t => Pw G D tc b0 u t) (AA b0)) args s 0 0 (AA b0)) (F0 m 142 ls []) := by
  have hx := C.1
  have hb := C.2.1
  unfold X_X12_advance_142 at h
  refine x_iinc C hl dX12_advance_142 rfl (v := (1 : Int32)) (by decide) (by decide) rfl (fun ls hl => ?_)
  refine x_aload_n C hl dX12_advance_145 rfl ?_
  refine lv_dup hx hb dX12_advance_146 (rv_cat _ _) ?_
  have t1 := h.1
  replace h := h.2
  refine x_get C hW (t := 12) (k := 50) t1 kl_12 (by decide) fl_X12_226 (v := .int (mI σ l0 50)) rfl dX12_advance_147 ?_
  refine lv_iconst (v := (1 : Int32)) hx hb dX12_advance_150 (by decide) ?_
  refine lv_iadd hx hb dX12_advance_151 ?_
  refine x_putI C hW hS (t := 12) (k := 50) t1 kl_12 (by decide) fl_X12_226 rfl rfl rfl rfl dX12_advance_152 (fun H locs hW hS => ?_)
  obtain ⟨s2, e_s2⟩ : ∃ z : Mem, z = (sI σ l0 50 ((mI σ l0 50) + (1 : Int32))) := ⟨_, rfl⟩
  replace h := h s2 e_s2
  replace hW : Wd G D tc b0 s2 H := by rw [e_s2]; exact hW
  refine lv_goto hx hb dX12_advance_155 (tgt := 86) rfl ?_
  exact hK86 _ _ _ _ _ hS hW (hl.keep [true, false, false, true] rfl) h
set_option maxRecDepth 20000 in
set_option maxHeartbeats 4000000 in
theorem t_X12_advance_307 {p : Program} {l : Launch} {e : Env} {s : State} {m : MethodId} {args : Array Value} {below : List Frame} {meth : Method} {c : Code} {H : Heap} {locs : List Loc} {D : va_G} {tc : Nat → ClassId} {b0 : Nat} {ls : Array Slot} {G : Lay} {Qx : Mem → Prop}   {σ : Mem} (C : Cx p s m args meth c cX12_advance RX12 4 D tc b0) (hr : meth.sig.returnType = (none : Option FieldType)) (hS : va_S (AA b0) s.heap H locs) (hW : Wd G D tc b0 σ H) (hl : hL b0 ls 4 [none, none, none, none]) (h : X_X12_advance_307 G Qx   σ) : W p l e rm_X12_advance s m args below meth c H locs 0 0 (MQ below (va_Qv Qx (fun u t => Pw G D tc b0 u t) (AA b0)) args s 0 0 (AA b0)) (F0 m 307 ls []) := by
  have hx := C.1
  have hb := C.2.1
  unfold X_X12_advance_307 at h
  exact r_v C hr hW hS h dX12_advance_307
set_option maxRecDepth 20000 in
set_option maxHeartbeats 4000000 in
theorem t_X12_advance_170 {p : Program} {l : Launch} {e : Env} {s : State} {m : MethodId} {args : Array Value} {below : List Frame} {meth : Method} {c : Code} {H : Heap} {locs : List Loc} {D : va_G} {tc : Nat → ClassId} {b0 : Nat} {ls : Array Slot} {G : Lay} {Qx : Mem → Prop}  {k0 : Nat} {k1 : Int32} {σ : Mem} (C : Cx p s m args meth c cX12_advance RX12 4 D tc b0) (hr : meth.sig.returnType = (none : Option FieldType)) (hS : va_S (AA b0) s.heap H locs) (hW : Wd G D tc b0 σ H) (hl : hL b0 ls 4 [none, none, none, none]) (h : X_X12_advance_170 G Qx  k0 k1 σ) : W p l e rm_X12_advance s m args below meth c H locs 0 0 (MQ below (va_Qv Qx (fun u t => Pw G D tc b0 u t) (AA b0)) args s 0 0 (AA b0)) (F0 m 170 ls [.int k1, rv b0 k0]) := by
  have hx := C.1
  have hb := C.2.1
  unfold X_X12_advance_170 at h
  have t1 := h.1
  replace h := h.2
  refine x_putI C hW hS (t := 12) (k := 51) t1 kl_12 (by decide) fl_X12_243 rfl rfl rfl rfl dX12_advance_170 (fun H locs hW hS => ?_)
  obtain ⟨s2, e_s2⟩ : ∃ z : Mem, z = (sI σ k0 51 k1) := ⟨_, rfl⟩
  replace h := h s2 e_s2
  replace hW : Wd G D tc b0 s2 H := by rw [e_s2]; exact hW
  refine lv_goto hx hb dX12_advance_173 (tgt := 307) rfl ?_
  exact t_X12_advance_307 C hr hS hW (hl.keep [false, false, false, false] rfl) h
set_option maxRecDepth 20000 in
set_option maxHeartbeats 4000000 in
theorem t_X12_advance_158 {p : Program} {l : Launch} {e : Env} {s : State} {m : MethodId} {args : Array Value} {below : List Frame} {meth : Method} {c : Code} {H : Heap} {locs : List Loc} {D : va_G} {tc : Nat → ClassId} {b0 : Nat} {ls : Array Slot} {G : Lay} {Qx : Mem → Prop} {l0 : Nat} {l3 : Int32}  {σ : Mem} (C : Cx p s m args meth c cX12_advance RX12 4 D tc b0) (hr : meth.sig.returnType = (none : Option FieldType)) (hS : va_S (AA b0) s.heap H locs) (hW : Wd G D tc b0 σ H) (hl : hL b0 ls 4 [some (.inr (.inr l0)), none, none, some (.inl l3)]) (h : X_X12_advance_158 G Qx l0 l3  σ) : W p l e rm_X12_advance s m args below meth c H locs 0 0 (MQ below (va_Qv Qx (fun u t => Pw G D tc b0 u t) (AA b0)) args s 0 0 (AA b0)) (F0 m 158 ls []) := by
  have hx := C.1
  have hb := C.2.1
  unfold X_X12_advance_158 at h
  refine x_aload_n C hl dX12_advance_158 rfl ?_
  refine x_iload_n C hl dX12_advance_159 rfl ?_
  refine lv_bipush (v := (8 : Int32)) hx hb dX12_advance_160 (by decide) ?_
  refine lv_icmp_le hx hb dX12_advance_162 (tgt := 169) rfl (fun hc => ?_) (fun hc => ?_)
  · replace h := h.1 hc
    refine lv_iconst (v := (2 : Int32)) hx hb dX12_advance_169 (by decide) ?_
    exact t_X12_advance_170 C hr hS hW (hl.keep [false, false, false, false] rfl) h
  · replace h := h.2 hc
    refine lv_iconst (v := (1 : Int32)) hx hb dX12_advance_165 (by decide) ?_
    refine lv_goto hx hb dX12_advance_166 (tgt := 170) rfl ?_
    exact t_X12_advance_170 C hr hS hW (hl.keep [false, false, false, false] rfl) h
set_option maxRecDepth 20000 in
set_option maxHeartbeats 4000000 in
theorem t_X12_advance_86_n {p : Program} {l : Launch} {e : Env} {s : State} {m : MethodId} {args : Array Value} {below : List Frame} {meth : Method} {c : Code} {D : va_G} {tc : Nat → ClassId} {b0 : Nat} {G : Lay} {Qx : Mem → Prop} {l0 : Nat} (C : Cx p s m args meth c cX12_advance RX12 4 D tc b0) (hr : meth.sig.returnType = (none : Option FieldType)) (n : Nat) : ∀ (l3 : Int32) (σ : Mem) (H : Heap) (locs : List Loc) (ls : Array Slot), va_S (AA b0) s.heap H locs → Wd G D tc b0 σ H → hL b0 ls 4 [some (.inr (.inr l0)), none, none, some (.inl l3)] → Lp (X_X12_advance_86_s G Qx l0) n (l3, σ) → W p l e rm_X12_advance s m args below meth c H locs 0 0 (MQ below (va_Qv Qx (fun u t => Pw G D tc b0 u t) (AA b0)) args s 0 0 (AA b0)) (F0 m 86 ls []) := by
  have hx := C.1
  have hb := C.2.1
  induction n with
  | zero => intro l3 σ H locs ls hS hW hl h; exact False.elim h
  | succ n hK86 =>
    intro l3 σ H locs ls hS hW hl h
    replace h : X_X12_advance_86_s G Qx l0 (Lp (X_X12_advance_86_s G Qx l0) n) (l3, σ) := h
    unfold X_X12_advance_86_s at h
    refine x_aload_n C hl dX12_advance_86 rfl ?_
    refine x_aload_n C hl dX12_advance_87 rfl ?_
    have t1 := h.1
    replace h := h.2
    refine x_get C hW (t := 12) (k := 50) t1 kl_12 (by decide) fl_X12_226 (v := .int (mI σ l0 50)) rfl dX12_advance_88 ?_
    refine y_i (x_run (As := [.int (mI σ l0 50)]) C hW hS (T_X12_see l l0 (mI σ l0 50) σ _ h) t1 kl_12 (CW.of yv_X12_see ml_X12_229) ⟨rfl, rfl, ⟨by decide, by decide⟩, by decide, by decide⟩ rfl hl.1 rfl (by decide) dX12_advance_91) hS (fun w3 s2 H locs h hW hS => ?_)
    refine lv_if_lt hx hb dX12_advance_94 (tgt := 158) rfl (fun hc => ?_) (fun hc => ?_)
    · replace h := h.1 hc
      exact t_X12_advance_158 C hr hS hW (hl.keep [true, false, false, true] rfl) h
    · replace h := h.2 hc
      refine x_aload_n C hl dX12_advance_97 rfl ?_
      refine x_aload_n C hl dX12_advance_98 rfl ?_
      refine x_get C hW (t := 12) (k := 50) t1 kl_12 (by decide) fl_X12_226 (v := .int (mI s2 l0 50)) rfl dX12_advance_99 ?_
      refine y_i (x_run (As := [.int (mI s2 l0 50)]) C hW hS (T_X12_see l l0 (mI s2 l0 50) s2 _ h) t1 kl_12 (CW.of yv_X12_see ml_X12_229) ⟨rfl, rfl, ⟨by decide, by decide⟩, by decide, by decide⟩ rfl hl.1 rfl (by decide) dX12_advance_102) hS (fun w5 s4 H locs h hW hS => ?_)
      refine y_i (x_runS (As := [.int w5]) C hW hS (T_X12_letterOf l w5 s4 _ h) (CS.of yv_X12_letterOf ml_X12_240) ⟨rfl, rfl, ⟨by decide, by decide⟩, by decide, by decide⟩ rfl hl.1 rfl (by decide) dX12_advance_105) hS (fun w7 s6 H locs h hW hS => ?_)
      refine lv_if_le hx hb dX12_advance_108 (tgt := 158) rfl (fun hc => ?_) (fun hc => ?_)
      · replace h := h.1 hc
        exact t_X12_advance_158 C hr hS hW (hl.keep [true, false, false, true] rfl) h
      · replace h := h.2 hc
        refine x_iload_n C hl dX12_advance_111 rfl ?_
        refine lv_bipush (v := (8 : Int32)) hx hb dX12_advance_112 (by decide) ?_
        refine lv_icmp_ge hx hb dX12_advance_114 (tgt := 142) rfl (fun hc => ?_) (fun hc => ?_)
        · replace h := h.1 hc
          exact t_X12_advance_142 C hr hK86 hS hW (hl.keep [true, false, false, true] rfl) h
        · replace h := h.2 hc
          refine x_aload_n C hl dX12_advance_117 rfl ?_
          refine x_aload_n C hl dX12_advance_118 rfl ?_
          refine x_get C hW (t := 12) (k := 52) t1 kl_12 (by decide) fl_X12_246 (v := .long (mJ s6 l0 52)) rfl dX12_advance_119 ?_
          refine lv_ldc2 (own := RX12) (v := (64 : Int64)) hx hb C.2.2.2.1 (C.2.2.2.2.1 _ (gc8 72 rfl rfl)) dX12_advance_122 ?_
          refine lv_lmul hx hb dX12_advance_125 ?_
          refine x_aload_n C hl dX12_advance_126 rfl ?_
          refine x_aload_n C hl dX12_advance_127 rfl ?_
          refine x_get C hW (t := 12) (k := 50) t1 kl_12 (by decide) fl_X12_226 (v := .int (mI s6 l0 50)) rfl dX12_advance_128 ?_
          refine y_i (x_run (As := [.int (mI s6 l0 50)]) C hW hS (T_X12_see l l0 (mI s6 l0 50) s6 _ h) t1 kl_12 (CW.of yv_X12_see ml_X12_229) ⟨rfl, rfl, ⟨by decide, by decide⟩, by decide, by decide⟩ rfl hl.1 rfl (by simp [rv_cat, cat_i, cat_l]) dX12_advance_131) hS (fun w9 s8 H locs h hW hS => ?_)
          refine y_i (x_runS (As := [.int w9]) C hW hS (T_X12_letterOf l w9 s8 _ h) (CS.of yv_X12_letterOf ml_X12_240) ⟨rfl, rfl, ⟨by decide, by decide⟩, by decide, by decide⟩ rfl hl.1 rfl (by simp [rv_cat, cat_i, cat_l]) dX12_advance_134) hS (fun w11 s10 H locs h hW hS => ?_)
          refine lv_i2l hx hb dX12_advance_137 rfl ?_
          refine lv_ladd hx hb dX12_advance_138 ?_
          refine x_putJ C hW hS (t := 12) (k := 52) t1 kl_12 (by decide) fl_X12_246 rfl rfl rfl rfl dX12_advance_139 (fun H locs hW hS => ?_)
          obtain ⟨s12, e_s12⟩ : ∃ z : Mem, z = (sJ s10 l0 52 (((mJ s6 l0 52) * (64 : Int64)) + (w11.toInt64))) := ⟨_, rfl⟩
          replace h := h s12 e_s12
          replace hW : Wd G D tc b0 s12 H := by rw [e_s12]; exact hW
          exact t_X12_advance_142 C hr hK86 hS hW (hl.keep [true, false, false, true] rfl) h
set_option maxRecDepth 20000 in
set_option maxHeartbeats 4000000 in
theorem t_X12_advance_86 {p : Program} {l : Launch} {e : Env} {s : State} {m : MethodId} {args : Array Value} {below : List Frame} {meth : Method} {c : Code} {H : Heap} {locs : List Loc} {D : va_G} {tc : Nat → ClassId} {b0 : Nat} {ls : Array Slot} {G : Lay} {Qx : Mem → Prop} {l0 : Nat} {l3 : Int32}  {σ : Mem} (C : Cx p s m args meth c cX12_advance RX12 4 D tc b0) (hr : meth.sig.returnType = (none : Option FieldType)) (hS : va_S (AA b0) s.heap H locs) (hW : Wd G D tc b0 σ H) (hl : hL b0 ls 4 [some (.inr (.inr l0)), none, none, some (.inl l3)]) (h : X_X12_advance_86 G Qx l0 l3 σ) : W p l e rm_X12_advance s m args below meth c H locs 0 0 (MQ below (va_Qv Qx (fun u t => Pw G D tc b0 u t) (AA b0)) args s 0 0 (AA b0)) (F0 m 86 ls []) := by
  obtain ⟨n, h⟩ := h
  exact t_X12_advance_86_n C hr n l3 σ H locs ls hS hW hl h
set_option maxRecDepth 20000 in
set_option maxHeartbeats 4000000 in
theorem t_X12_advance_242 {p : Program} {l : Launch} {e : Env} {s : State} {m : MethodId} {args : Array Value} {below : List Frame} {meth : Method} {c : Code} {H : Heap} {locs : List Loc} {D : va_G} {tc : Nat → ClassId} {b0 : Nat} {ls : Array Slot} {G : Lay} {Qx : Mem → Prop} {l0 : Nat} {l3 : Int32}  {K187 : Int32 × Mem → Prop} {σ : Mem} (C : Cx p s m args meth c cX12_advance RX12 4 D tc b0) (hr : meth.sig.returnType = (none : Option FieldType)) (hK187 : ∀ (x3 : Int32) (σ : Mem) (H : Heap) (locs : List Loc) (ls : Array Slot), va_S (AA b0) s.heap H locs → Wd G D tc b0 σ H → hL b0 ls 4 [some (.inr (.inr l0)), none, none, some (.inl x3)] → K187 (x3, σ) → W p l e rm_X12_advance s m args below meth c H locs 0 0 (MQ below (va_Qv Qx (fun u t => Pw G D tc b0 u t) (AA b0)) args s 0 0 (AA b0)) (F0 m 187 ls [])) (hS : va_S (AA b0) s.heap H locs) (hW : Wd G D tc b0 σ H) (hl : hL b0 ls 4 [some (.inr (.inr l0)), none, none, some (.inl l3)]) (h : X_X12_advance_242 G Qx K187 l0 l3  σ) : W p l e rm_X12_advance s m args below meth c H locs 0 0 (MQ below (va_Qv Qx (fun u t => Pw G D tc b0 u t) (AA b0)) args s 0 0 (AA b0)) (F0 m 242 ls []) := by
  have hx := C.1
  have hb := C.2.1
  unfold X_X12_advance_242 at h
  refine x_iinc C hl dX12_advance_242 rfl (v := (1 : Int32)) (by decide) (by decide) rfl (fun ls hl => ?_)
  refine x_aload_n C hl dX12_advance_245 rfl ?_
  refine lv_dup hx hb dX12_advance_246 (rv_cat _ _) ?_
  have t1 := h.1
  replace h := h.2
  refine x_get C hW (t := 12) (k := 50) t1 kl_12 (by decide) fl_X12_226 (v := .int (mI σ l0 50)) rfl dX12_advance_247 ?_
  refine lv_iconst (v := (1 : Int32)) hx hb dX12_advance_250 (by decide) ?_
  refine lv_iadd hx hb dX12_advance_251 ?_
  refine x_putI C hW hS (t := 12) (k := 50) t1 kl_12 (by decide) fl_X12_226 rfl rfl rfl rfl dX12_advance_252 (fun H locs hW hS => ?_)
  obtain ⟨s2, e_s2⟩ : ∃ z : Mem, z = (sI σ l0 50 ((mI σ l0 50) + (1 : Int32))) := ⟨_, rfl⟩
  replace h := h s2 e_s2
  replace hW : Wd G D tc b0 s2 H := by rw [e_s2]; exact hW
  refine lv_goto hx hb dX12_advance_255 (tgt := 187) rfl ?_
  exact hK187 _ _ _ _ _ hS hW (hl.keep [true, false, false, true] rfl) h
set_option maxRecDepth 20000 in
set_option maxHeartbeats 4000000 in
theorem t_X12_advance_270 {p : Program} {l : Launch} {e : Env} {s : State} {m : MethodId} {args : Array Value} {below : List Frame} {meth : Method} {c : Code} {H : Heap} {locs : List Loc} {D : va_G} {tc : Nat → ClassId} {b0 : Nat} {ls : Array Slot} {G : Lay} {Qx : Mem → Prop}  {k0 : Nat} {k1 : Int32} {σ : Mem} (C : Cx p s m args meth c cX12_advance RX12 4 D tc b0) (hr : meth.sig.returnType = (none : Option FieldType)) (hS : va_S (AA b0) s.heap H locs) (hW : Wd G D tc b0 σ H) (hl : hL b0 ls 4 [none, none, none, none]) (h : X_X12_advance_270 G Qx  k0 k1 σ) : W p l e rm_X12_advance s m args below meth c H locs 0 0 (MQ below (va_Qv Qx (fun u t => Pw G D tc b0 u t) (AA b0)) args s 0 0 (AA b0)) (F0 m 270 ls [.int k1, rv b0 k0]) := by
  have hx := C.1
  have hb := C.2.1
  unfold X_X12_advance_270 at h
  have t1 := h.1
  replace h := h.2
  refine x_putI C hW hS (t := 12) (k := 51) t1 kl_12 (by decide) fl_X12_243 rfl rfl rfl rfl dX12_advance_270 (fun H locs hW hS => ?_)
  obtain ⟨s2, e_s2⟩ : ∃ z : Mem, z = (sI σ k0 51 k1) := ⟨_, rfl⟩
  replace h := h s2 e_s2
  replace hW : Wd G D tc b0 s2 H := by rw [e_s2]; exact hW
  refine lv_goto hx hb dX12_advance_273 (tgt := 307) rfl ?_
  exact t_X12_advance_307 C hr hS hW (hl.keep [false, false, false, false] rfl) h
set_option maxRecDepth 20000 in
set_option maxHeartbeats 4000000 in
theorem t_X12_advance_258 {p : Program} {l : Launch} {e : Env} {s : State} {m : MethodId} {args : Array Value} {below : List Frame} {meth : Method} {c : Code} {H : Heap} {locs : List Loc} {D : va_G} {tc : Nat → ClassId} {b0 : Nat} {ls : Array Slot} {G : Lay} {Qx : Mem → Prop} {l0 : Nat} {l3 : Int32}  {σ : Mem} (C : Cx p s m args meth c cX12_advance RX12 4 D tc b0) (hr : meth.sig.returnType = (none : Option FieldType)) (hS : va_S (AA b0) s.heap H locs) (hW : Wd G D tc b0 σ H) (hl : hL b0 ls 4 [some (.inr (.inr l0)), none, none, some (.inl l3)]) (h : X_X12_advance_258 G Qx l0 l3  σ) : W p l e rm_X12_advance s m args below meth c H locs 0 0 (MQ below (va_Qv Qx (fun u t => Pw G D tc b0 u t) (AA b0)) args s 0 0 (AA b0)) (F0 m 258 ls []) := by
  have hx := C.1
  have hb := C.2.1
  unfold X_X12_advance_258 at h
  refine x_aload_n C hl dX12_advance_258 rfl ?_
  refine x_iload_n C hl dX12_advance_259 rfl ?_
  refine lv_bipush (v := (6 : Int32)) hx hb dX12_advance_260 (by decide) ?_
  refine lv_icmp_le hx hb dX12_advance_262 (tgt := 269) rfl (fun hc => ?_) (fun hc => ?_)
  · replace h := h.1 hc
    refine lv_iconst (v := (3 : Int32)) hx hb dX12_advance_269 (by decide) ?_
    exact t_X12_advance_270 C hr hS hW (hl.keep [false, false, false, false] rfl) h
  · replace h := h.2 hc
    refine lv_iconst (v := (1 : Int32)) hx hb dX12_advance_265 (by decide) ?_
    refine lv_goto hx hb dX12_advance_266 (tgt := 270) rfl ?_
    exact t_X12_advance_270 C hr hS hW (hl.keep [false, false, false, false] rfl) h
set_option maxRecDepth 20000 in
set_option maxHeartbeats 4000000 in
theorem t_X12_advance_187_n {p : Program} {l : Launch} {e : Env} {s : State} {m : MethodId} {args : Array Value} {below : List Frame} {meth : Method} {c : Code} {D : va_G} {tc : Nat → ClassId} {b0 : Nat} {G : Lay} {Qx : Mem → Prop} {l0 : Nat} (C : Cx p s m args meth c cX12_advance RX12 4 D tc b0) (hr : meth.sig.returnType = (none : Option FieldType)) (n : Nat) : ∀ (l3 : Int32) (σ : Mem) (H : Heap) (locs : List Loc) (ls : Array Slot), va_S (AA b0) s.heap H locs → Wd G D tc b0 σ H → hL b0 ls 4 [some (.inr (.inr l0)), none, none, some (.inl l3)] → Lp (X_X12_advance_187_s G Qx l0) n (l3, σ) → W p l e rm_X12_advance s m args below meth c H locs 0 0 (MQ below (va_Qv Qx (fun u t => Pw G D tc b0 u t) (AA b0)) args s 0 0 (AA b0)) (F0 m 187 ls []) := by
  have hx := C.1
  have hb := C.2.1
  induction n with
  | zero => intro l3 σ H locs ls hS hW hl h; exact False.elim h
  | succ n hK187 =>
    intro l3 σ H locs ls hS hW hl h
    replace h : X_X12_advance_187_s G Qx l0 (Lp (X_X12_advance_187_s G Qx l0) n) (l3, σ) := h
    unfold X_X12_advance_187_s at h
    refine x_aload_n C hl dX12_advance_187 rfl ?_
    refine x_aload_n C hl dX12_advance_188 rfl ?_
    have t1 := h.1
    replace h := h.2
    refine x_get C hW (t := 12) (k := 50) t1 kl_12 (by decide) fl_X12_226 (v := .int (mI σ l0 50)) rfl dX12_advance_189 ?_
    refine y_i (x_run (As := [.int (mI σ l0 50)]) C hW hS (T_X12_see l l0 (mI σ l0 50) σ _ h) t1 kl_12 (CW.of yv_X12_see ml_X12_229) ⟨rfl, rfl, ⟨by decide, by decide⟩, by decide, by decide⟩ rfl hl.1 rfl (by decide) dX12_advance_192) hS (fun w3 s2 H locs h hW hS => ?_)
    refine lv_bipush (v := (48 : Int32)) hx hb dX12_advance_195 (by decide) ?_
    refine lv_icmp_lt hx hb dX12_advance_197 (tgt := 258) rfl (fun hc => ?_) (fun hc => ?_)
    · replace h := h.1 hc
      exact t_X12_advance_258 C hr hS hW (hl.keep [true, false, false, true] rfl) h
    · replace h := h.2 hc
      refine x_aload_n C hl dX12_advance_200 rfl ?_
      refine x_aload_n C hl dX12_advance_201 rfl ?_
      refine x_get C hW (t := 12) (k := 50) t1 kl_12 (by decide) fl_X12_226 (v := .int (mI s2 l0 50)) rfl dX12_advance_202 ?_
      refine y_i (x_run (As := [.int (mI s2 l0 50)]) C hW hS (T_X12_see l l0 (mI s2 l0 50) s2 _ h) t1 kl_12 (CW.of yv_X12_see ml_X12_229) ⟨rfl, rfl, ⟨by decide, by decide⟩, by decide, by decide⟩ rfl hl.1 rfl (by decide) dX12_advance_205) hS (fun w5 s4 H locs h hW hS => ?_)
      refine lv_bipush (v := (57 : Int32)) hx hb dX12_advance_208 (by decide) ?_
      refine lv_icmp_gt hx hb dX12_advance_210 (tgt := 258) rfl (fun hc => ?_) (fun hc => ?_)
      · replace h := h.1 hc
        exact t_X12_advance_258 C hr hS hW (hl.keep [true, false, false, true] rfl) h
      · replace h := h.2 hc
        refine x_iload_n C hl dX12_advance_213 rfl ?_
        refine lv_bipush (v := (6 : Int32)) hx hb dX12_advance_214 (by decide) ?_
        refine lv_icmp_ge hx hb dX12_advance_216 (tgt := 242) rfl (fun hc => ?_) (fun hc => ?_)
        · replace h := h.1 hc
          exact t_X12_advance_242 C hr hK187 hS hW (hl.keep [true, false, false, true] rfl) h
        · replace h := h.2 hc
          refine x_aload_n C hl dX12_advance_219 rfl ?_
          refine lv_bipush (v := (10 : Int32)) hx hb dX12_advance_220 (by decide) ?_
          refine x_aload_n C hl dX12_advance_222 rfl ?_
          refine x_get C hW (t := 12) (k := 53) t1 kl_12 (by decide) fl_X12_252 (v := .int (mI s4 l0 53)) rfl dX12_advance_223 ?_
          refine lv_imul hx hb dX12_advance_226 ?_
          refine x_aload_n C hl dX12_advance_227 rfl ?_
          refine x_aload_n C hl dX12_advance_228 rfl ?_
          refine x_get C hW (t := 12) (k := 50) t1 kl_12 (by decide) fl_X12_226 (v := .int (mI s4 l0 50)) rfl dX12_advance_229 ?_
          refine y_i (x_run (As := [.int (mI s4 l0 50)]) C hW hS (T_X12_see l l0 (mI s4 l0 50) s4 _ h) t1 kl_12 (CW.of yv_X12_see ml_X12_229) ⟨rfl, rfl, ⟨by decide, by decide⟩, by decide, by decide⟩ rfl hl.1 rfl (by simp [rv_cat, cat_i, cat_l]) dX12_advance_232) hS (fun w7 s6 H locs h hW hS => ?_)
          refine lv_iadd hx hb dX12_advance_235 ?_
          refine lv_bipush (v := (48 : Int32)) hx hb dX12_advance_236 (by decide) ?_
          refine lv_isub hx hb dX12_advance_238 ?_
          refine x_putI C hW hS (t := 12) (k := 53) t1 kl_12 (by decide) fl_X12_252 rfl rfl rfl rfl dX12_advance_239 (fun H locs hW hS => ?_)
          obtain ⟨s8, e_s8⟩ : ∃ z : Mem, z = (sI s6 l0 53 ((((10 : Int32) * (mI s4 l0 53)) + w7) - (48 : Int32))) := ⟨_, rfl⟩
          replace h := h s8 e_s8
          replace hW : Wd G D tc b0 s8 H := by rw [e_s8]; exact hW
          exact t_X12_advance_242 C hr hK187 hS hW (hl.keep [true, false, false, true] rfl) h
set_option maxRecDepth 20000 in
set_option maxHeartbeats 4000000 in
theorem t_X12_advance_187 {p : Program} {l : Launch} {e : Env} {s : State} {m : MethodId} {args : Array Value} {below : List Frame} {meth : Method} {c : Code} {H : Heap} {locs : List Loc} {D : va_G} {tc : Nat → ClassId} {b0 : Nat} {ls : Array Slot} {G : Lay} {Qx : Mem → Prop} {l0 : Nat} {l3 : Int32}  {σ : Mem} (C : Cx p s m args meth c cX12_advance RX12 4 D tc b0) (hr : meth.sig.returnType = (none : Option FieldType)) (hS : va_S (AA b0) s.heap H locs) (hW : Wd G D tc b0 σ H) (hl : hL b0 ls 4 [some (.inr (.inr l0)), none, none, some (.inl l3)]) (h : X_X12_advance_187 G Qx l0 l3 σ) : W p l e rm_X12_advance s m args below meth c H locs 0 0 (MQ below (va_Qv Qx (fun u t => Pw G D tc b0 u t) (AA b0)) args s 0 0 (AA b0)) (F0 m 187 ls []) := by
  obtain ⟨n, h⟩ := h
  exact t_X12_advance_187_n C hr n l3 σ H locs ls hS hW hl h
set_option maxRecDepth 20000 in
set_option maxHeartbeats 4000000 in
theorem t_X12_advance_304 {p : Program} {l : Launch} {e : Env} {s : State} {m : MethodId} {args : Array Value} {below : List Frame} {meth : Method} {c : Code} {H : Heap} {locs : List Loc} {D : va_G} {tc : Nat → ClassId} {b0 : Nat} {ls : Array Slot} {G : Lay} {Qx : Mem → Prop}  {k0 : Nat} {k1 : Int32} {σ : Mem} (C : Cx p s m args meth c cX12_advance RX12 4 D tc b0) (hr : meth.sig.returnType = (none : Option FieldType)) (hS : va_S (AA b0) s.heap H locs) (hW : Wd G D tc b0 σ H) (hl : hL b0 ls 4 [none, none, none, none]) (h : X_X12_advance_304 G Qx  k0 k1 σ) : W p l e rm_X12_advance s m args below meth c H locs 0 0 (MQ below (va_Qv Qx (fun u t => Pw G D tc b0 u t) (AA b0)) args s 0 0 (AA b0)) (F0 m 304 ls [.int k1, rv b0 k0]) := by
  have hx := C.1
  have hb := C.2.1
  unfold X_X12_advance_304 at h
  have t1 := h.1
  replace h := h.2
  refine x_putI C hW hS (t := 12) (k := 51) t1 kl_12 (by decide) fl_X12_243 rfl rfl rfl rfl dX12_advance_304 (fun H locs hW hS => ?_)
  obtain ⟨s2, e_s2⟩ : ∃ z : Mem, z = (sI σ k0 51 k1) := ⟨_, rfl⟩
  replace h := h s2 e_s2
  replace hW : Wd G D tc b0 s2 H := by rw [e_s2]; exact hW
  exact t_X12_advance_307 C hr hS hW (hl.keep [false, false, false, false] rfl) h
set_option maxRecDepth 20000 in
set_option maxHeartbeats 4000000 in
theorem t_X12_advance_176 {p : Program} {l : Launch} {e : Env} {s : State} {m : MethodId} {args : Array Value} {below : List Frame} {meth : Method} {c : Code} {H : Heap} {locs : List Loc} {D : va_G} {tc : Nat → ClassId} {b0 : Nat} {ls : Array Slot} {G : Lay} {Qx : Mem → Prop} {l0 : Nat} {l1 : Int32} {l2 : Int32} {l3 : Int32}  {σ : Mem} (C : Cx p s m args meth c cX12_advance RX12 4 D tc b0) (hr : meth.sig.returnType = (none : Option FieldType)) (hS : va_S (AA b0) s.heap H locs) (hW : Wd G D tc b0 σ H) (hl : hL b0 ls 4 [some (.inr (.inr l0)), some (.inl l1), some (.inl l2), some (.inl l3)]) (h : X_X12_advance_176 G Qx l0 l1 l2 l3  σ) : W p l e rm_X12_advance s m args below meth c H locs 0 0 (MQ below (va_Qv Qx (fun u t => Pw G D tc b0 u t) (AA b0)) args s 0 0 (AA b0)) (F0 m 176 ls []) := by
  have hx := C.1
  have hb := C.2.1
  unfold X_X12_advance_176 at h
  refine x_iload_n C hl dX12_advance_176 rfl ?_
  refine lv_bipush (v := (52 : Int32)) hx hb dX12_advance_177 (by decide) ?_
  refine lv_icmp_le hx hb dX12_advance_179 (tgt := 276) rfl (fun hc => ?_) (fun hc => ?_)
  · replace h := h.1 hc
    refine x_aload_n C hl dX12_advance_276 rfl ?_
    refine lv_dup hx hb dX12_advance_277 (rv_cat _ _) ?_
    have t1 := h.1
    replace h := h.2
    refine x_get C hW (t := 12) (k := 50) t1 kl_12 (by decide) fl_X12_226 (v := .int (mI σ l0 50)) rfl dX12_advance_278 ?_
    refine lv_iconst (v := (1 : Int32)) hx hb dX12_advance_281 (by decide) ?_
    refine lv_iadd hx hb dX12_advance_282 ?_
    refine x_putI C hW hS (t := 12) (k := 50) t1 kl_12 (by decide) fl_X12_226 rfl rfl rfl rfl dX12_advance_283 (fun H locs hW hS => ?_)
    obtain ⟨s2, e_s2⟩ : ∃ z : Mem, z = (sI σ l0 50 ((mI σ l0 50) + (1 : Int32))) := ⟨_, rfl⟩
    replace h := h s2 e_s2
    replace hW : Wd G D tc b0 s2 H := by rw [e_s2]; exact hW
    refine x_aload_n C hl dX12_advance_286 rfl ?_
    refine x_iload_n C hl dX12_advance_287 rfl ?_
    refine x_putI C hW hS (t := 12) (k := 53) t1 kl_12 (by decide) fl_X12_252 rfl rfl rfl rfl dX12_advance_288 (fun H locs hW hS => ?_)
    obtain ⟨s3, e_s3⟩ : ∃ z : Mem, z = (sI s2 l0 53 l1) := ⟨_, rfl⟩
    replace h := h s3 e_s3
    replace hW : Wd G D tc b0 s3 H := by rw [e_s3]; exact hW
    refine x_aload_n C hl dX12_advance_291 rfl ?_
    refine x_iload_n C hl dX12_advance_292 rfl ?_
    refine y_i (x_runS (As := [.int l1]) C hW hS (T_X12_isSign l l1 s3 _ h) (CS.of yv_X12_isSign ml_X12_255) ⟨rfl, rfl, ⟨by decide, by decide⟩, by decide, by decide⟩ rfl hl.1 rfl (by simp [rv_cat, cat_i, cat_l]) dX12_advance_293) hS (fun w5 s4 H locs h hW hS => ?_)
    refine lv_if_eq hx hb dX12_advance_296 (tgt := 303) rfl (fun hc => ?_) (fun hc => ?_)
    · replace h := h.1 hc
      refine lv_iconst (v := (1 : Int32)) hx hb dX12_advance_303 (by decide) ?_
      exact t_X12_advance_304 C hr hS hW (hl.keep [false, false, false, false] rfl) h
    · replace h := h.2 hc
      refine lv_iconst (v := (4 : Int32)) hx hb dX12_advance_299 (by decide) ?_
      refine lv_goto hx hb dX12_advance_300 (tgt := 304) rfl ?_
      exact t_X12_advance_304 C hr hS hW (hl.keep [false, false, false, false] rfl) h
  · replace h := h.2 hc
    refine x_aload_n C hl dX12_advance_182 rfl ?_
    refine lv_iconst (v := (0 : Int32)) hx hb dX12_advance_183 (by decide) ?_
    have t6 := h.1
    replace h := h.2
    refine x_putI C hW hS (t := 12) (k := 53) t6 kl_12 (by decide) fl_X12_252 rfl rfl rfl rfl dX12_advance_184 (fun H locs hW hS => ?_)
    obtain ⟨s7, e_s7⟩ : ∃ z : Mem, z = (sI σ l0 53 (0 : Int32)) := ⟨_, rfl⟩
    replace h := h s7 e_s7
    replace hW : Wd G D tc b0 s7 H := by rw [e_s7]; exact hW
    exact t_X12_advance_187 C hr hS hW (hl.keep [true, false, false, true] rfl) h
set_option maxRecDepth 20000 in
set_option maxHeartbeats 4000000 in
theorem t_X12_advance_56 {p : Program} {l : Launch} {e : Env} {s : State} {m : MethodId} {args : Array Value} {below : List Frame} {meth : Method} {c : Code} {H : Heap} {locs : List Loc} {D : va_G} {tc : Nat → ClassId} {b0 : Nat} {ls : Array Slot} {G : Lay} {Qx : Mem → Prop} {l0 : Nat} {l1 : Int32} {k0 : Int32} {σ : Mem} (C : Cx p s m args meth c cX12_advance RX12 4 D tc b0) (hr : meth.sig.returnType = (none : Option FieldType)) (hS : va_S (AA b0) s.heap H locs) (hW : Wd G D tc b0 σ H) (hl : hL b0 ls 4 [some (.inr (.inr l0)), some (.inl l1), none, none]) (h : X_X12_advance_56 G Qx l0 l1 k0 σ) : W p l e rm_X12_advance s m args below meth c H locs 0 0 (MQ below (va_Qv Qx (fun u t => Pw G D tc b0 u t) (AA b0)) args s 0 0 (AA b0)) (F0 m 56 ls [.int k0]) := by
  have hx := C.1
  have hb := C.2.1
  unfold X_X12_advance_56 at h
  refine x_istore_n C hl dX12_advance_56 (by decide) rfl (fun ls hl => ?_)
  refine lv_iconst (v := (0 : Int32)) hx hb dX12_advance_57 (by decide) ?_
  refine x_istore_n C hl dX12_advance_58 (by decide) rfl (fun ls hl => ?_)
  refine x_iload_n C hl dX12_advance_59 rfl ?_
  refine lv_if_ge hx hb dX12_advance_60 (tgt := 71) rfl (fun hc => ?_) (fun hc => ?_)
  · replace h := h.1 hc
    refine x_iload_n C hl dX12_advance_71 rfl ?_
    refine lv_if_le hx hb dX12_advance_72 (tgt := 176) rfl (fun hc => ?_) (fun hc => ?_)
    · replace h := h.1 hc
      exact t_X12_advance_176 C hr hS hW (hl.keep [true, true, true, true] rfl) h
    · replace h := h.2 hc
      refine x_iload_n C hl dX12_advance_75 rfl ?_
      refine lv_bipush (v := (53 : Int32)) hx hb dX12_advance_76 (by decide) ?_
      refine lv_icmp_ge hx hb dX12_advance_78 (tgt := 176) rfl (fun hc => ?_) (fun hc => ?_)
      · replace h := h.1 hc
        exact t_X12_advance_176 C hr hS hW (hl.keep [true, true, true, true] rfl) h
      · replace h := h.2 hc
        refine x_aload_n C hl dX12_advance_81 rfl ?_
        refine lv_lconst (v := (0 : Int64)) hx hb dX12_advance_82 (by decide) ?_
        have t1 := h.1
        replace h := h.2
        refine x_putJ C hW hS (t := 12) (k := 52) t1 kl_12 (by decide) fl_X12_246 rfl rfl rfl rfl dX12_advance_83 (fun H locs hW hS => ?_)
        obtain ⟨s2, e_s2⟩ : ∃ z : Mem, z = (sJ σ l0 52 (0 : Int64)) := ⟨_, rfl⟩
        replace h := h s2 e_s2
        replace hW : Wd G D tc b0 s2 H := by rw [e_s2]; exact hW
        exact t_X12_advance_86 C hr hS hW (hl.keep [true, false, false, true] rfl) h
  · replace h := h.2 hc
    refine x_aload_n C hl dX12_advance_63 rfl ?_
    refine lv_iconst (v := (0 : Int32)) hx hb dX12_advance_64 (by decide) ?_
    have t3 := h.1
    replace h := h.2
    refine x_putI C hW hS (t := 12) (k := 51) t3 kl_12 (by decide) fl_X12_243 rfl rfl rfl rfl dX12_advance_65 (fun H locs hW hS => ?_)
    obtain ⟨s4, e_s4⟩ : ∃ z : Mem, z = (sI σ l0 51 (0 : Int32)) := ⟨_, rfl⟩
    replace h := h s4 e_s4
    replace hW : Wd G D tc b0 s4 H := by rw [e_s4]; exact hW
    refine lv_goto hx hb dX12_advance_68 (tgt := 307) rfl ?_
    exact t_X12_advance_307 C hr hS hW (hl.keep [false, false, false, false] rfl) h
set_option maxRecDepth 20000 in
set_option maxHeartbeats 4000000 in
theorem t_X12_advance_0_n {p : Program} {l : Launch} {e : Env} {s : State} {m : MethodId} {args : Array Value} {below : List Frame} {meth : Method} {c : Code} {D : va_G} {tc : Nat → ClassId} {b0 : Nat} {G : Lay} {Qx : Mem → Prop} {l0 : Nat} (C : Cx p s m args meth c cX12_advance RX12 4 D tc b0) (hr : meth.sig.returnType = (none : Option FieldType)) (n : Nat) : ∀  (σ : Mem) (H : Heap) (locs : List Loc) (ls : Array Slot), va_S (AA b0) s.heap H locs → Wd G D tc b0 σ H → hL b0 ls 4 [some (.inr (.inr l0)), none, none, none] → Lp (X_X12_advance_0_s G Qx l0) n (σ) → W p l e rm_X12_advance s m args below meth c H locs 0 0 (MQ below (va_Qv Qx (fun u t => Pw G D tc b0 u t) (AA b0)) args s 0 0 (AA b0)) (F0 m 0 ls []) := by
  have hx := C.1
  have hb := C.2.1
  induction n with
  | zero => intro  σ H locs ls hS hW hl h; exact False.elim h
  | succ n hK0 =>
    intro  σ H locs ls hS hW hl h
    replace h : X_X12_advance_0_s G Qx l0 (Lp (X_X12_advance_0_s G Qx l0) n) (σ) := h
    unfold X_X12_advance_0_s at h
    refine x_aload_n C hl dX12_advance_0 rfl ?_
    refine x_aload_n C hl dX12_advance_1 rfl ?_
    have t1 := h.1
    replace h := h.2
    refine x_get C hW (t := 12) (k := 50) t1 kl_12 (by decide) fl_X12_226 (v := .int (mI σ l0 50)) rfl dX12_advance_2 ?_
    refine y_i (x_run (As := [.int (mI σ l0 50)]) C hW hS (T_X12_see l l0 (mI σ l0 50) σ _ h) t1 kl_12 (CW.of yv_X12_see ml_X12_229) ⟨rfl, rfl, ⟨by decide, by decide⟩, by decide, by decide⟩ rfl hl.1 rfl (by decide) dX12_advance_5) hS (fun w3 s2 H locs h hW hS => ?_)
    refine y_i (x_runS (As := [.int w3]) C hW hS (T_X12_isBlank l w3 s2 _ h) (CS.of yv_X12_isBlank ml_X12_233) ⟨rfl, rfl, ⟨by decide, by decide⟩, by decide, by decide⟩ rfl hl.1 rfl (by decide) dX12_advance_8) hS (fun w5 s4 H locs h hW hS => ?_)
    refine lv_if_eq hx hb dX12_advance_11 (tgt := 27) rfl (fun hc => ?_) (fun hc => ?_)
    · replace h := h.1 hc
      refine x_aload_n C hl dX12_advance_27 rfl ?_
      refine x_aload_n C hl dX12_advance_28 rfl ?_
      refine x_get C hW (t := 12) (k := 50) t1 kl_12 (by decide) fl_X12_226 (v := .int (mI s4 l0 50)) rfl dX12_advance_29 ?_
      refine x_putI C hW hS (t := 12) (k := 49) t1 kl_12 (by decide) fl_X12_237 rfl rfl rfl rfl dX12_advance_32 (fun H locs hW hS => ?_)
      obtain ⟨s6, e_s6⟩ : ∃ z : Mem, z = (sI s4 l0 49 (mI s4 l0 50)) := ⟨_, rfl⟩
      replace h := h s6 e_s6
      replace hW : Wd G D tc b0 s6 H := by rw [e_s6]; exact hW
      refine x_aload_n C hl dX12_advance_35 rfl ?_
      refine x_aload_n C hl dX12_advance_36 rfl ?_
      refine x_get C hW (t := 12) (k := 49) t1 kl_12 (by decide) fl_X12_237 (v := .int (mI s6 l0 49)) rfl dX12_advance_37 ?_
      refine y_i (x_run (As := [.int (mI s6 l0 49)]) C hW hS (T_X12_see l l0 (mI s6 l0 49) s6 _ h) t1 kl_12 (CW.of yv_X12_see ml_X12_229) ⟨rfl, rfl, ⟨by decide, by decide⟩, by decide, by decide⟩ rfl hl.1 rfl (by decide) dX12_advance_40) hS (fun w8 s7 H locs h hW hS => ?_)
      refine x_istore_n C hl dX12_advance_43 (by decide) rfl (fun ls hl => ?_)
      refine x_iload_n C hl dX12_advance_44 rfl ?_
      refine lv_if_ge hx hb dX12_advance_45 (tgt := 52) rfl (fun hc => ?_) (fun hc => ?_)
      · replace h := h.1 hc
        refine x_iload_n C hl dX12_advance_52 rfl ?_
        refine y_i (x_runS (As := [.int w8]) C hW hS (T_X12_letterOf l w8 s7 _ h) (CS.of yv_X12_letterOf ml_X12_240) ⟨rfl, rfl, ⟨by decide, by decide⟩, by decide, by decide⟩ rfl hl.1 rfl (by decide) dX12_advance_53) hS (fun w10 s9 H locs h hW hS => ?_)
        exact t_X12_advance_56 C hr hS hW (hl.keep [true, true, false, false] rfl) h
      · replace h := h.2 hc
        refine lv_iconst (v := (0 : Int32)) hx hb dX12_advance_48 (by decide) ?_
        refine lv_goto hx hb dX12_advance_49 (tgt := 56) rfl ?_
        exact t_X12_advance_56 C hr hS hW (hl.keep [true, true, false, false] rfl) h
    · replace h := h.2 hc
      refine x_aload_n C hl dX12_advance_14 rfl ?_
      refine lv_dup hx hb dX12_advance_15 (rv_cat _ _) ?_
      refine x_get C hW (t := 12) (k := 50) t1 kl_12 (by decide) fl_X12_226 (v := .int (mI s4 l0 50)) rfl dX12_advance_16 ?_
      refine lv_iconst (v := (1 : Int32)) hx hb dX12_advance_19 (by decide) ?_
      refine lv_iadd hx hb dX12_advance_20 ?_
      refine x_putI C hW hS (t := 12) (k := 50) t1 kl_12 (by decide) fl_X12_226 rfl rfl rfl rfl dX12_advance_21 (fun H locs hW hS => ?_)
      obtain ⟨s11, e_s11⟩ : ∃ z : Mem, z = (sI s4 l0 50 ((mI s4 l0 50) + (1 : Int32))) := ⟨_, rfl⟩
      replace h := h s11 e_s11
      replace hW : Wd G D tc b0 s11 H := by rw [e_s11]; exact hW
      refine lv_goto hx hb dX12_advance_24 (tgt := 0) rfl ?_
      exact hK0 _ _ _ _ hS hW (hl.keep [true, false, false, false] rfl) h
set_option maxRecDepth 20000 in
set_option maxHeartbeats 4000000 in
theorem t_X12_advance_0 {p : Program} {l : Launch} {e : Env} {s : State} {m : MethodId} {args : Array Value} {below : List Frame} {meth : Method} {c : Code} {H : Heap} {locs : List Loc} {D : va_G} {tc : Nat → ClassId} {b0 : Nat} {ls : Array Slot} {G : Lay} {Qx : Mem → Prop} {l0 : Nat}  {σ : Mem} (C : Cx p s m args meth c cX12_advance RX12 4 D tc b0) (hr : meth.sig.returnType = (none : Option FieldType)) (hS : va_S (AA b0) s.heap H locs) (hW : Wd G D tc b0 σ H) (hl : hL b0 ls 4 [some (.inr (.inr l0)), none, none, none]) (h : X_X12_advance_0 G Qx l0 σ) : W p l e rm_X12_advance s m args below meth c H locs 0 0 (MQ below (va_Qv Qx (fun u t => Pw G D tc b0 u t) (AA b0)) args s 0 0 (AA b0)) (F0 m 0 ls []) := by
  obtain ⟨n, h⟩ := h
  exact t_X12_advance_0_n C hr n  σ H locs ls hS hW hl h
theorem T_X12_advance (l : Launch) {G : Lay} {D : va_G} {tc : Nat → ClassId} {b0 : Nat} (l0 : Nat) (σ : Mem) (Qx : Mem → Prop) (h : X_X12_advance G Qx l0 σ) : MV l yX12_advance cX12_advance 4 ((none : Option FieldType)) rm_X12_advance G D tc b0 [rv b0 l0] σ Qx :=
  x_entry (y := yX12_advance) [.inr (.inr l0)] 3 (by decide) (Nat.le_of_ble_eq_true rfl) (fun p e s m args below meth c ls C hr hW hl => t_X12_advance_0 C hr va_S.rf hW (hl.keep [true, false, false, false] rfl) h)
/-! X12_fails -/
set_option maxRecDepth 20000 in
set_option maxHeartbeats 4000000 in
theorem t_X12_fails_0 {p : Program} {l : Launch} {e : Env} {s : State} {m : MethodId} {args : Array Value} {below : List Frame} {meth : Method} {c : Code} {H : Heap} {locs : List Loc} {D : va_G} {tc : Nat → ClassId} {b0 : Nat} {ls : Array Slot} {G : Lay} {Qx : Int32 → Mem → Prop} {l0 : Nat} {l1 : Int32}  {σ : Mem} (C : Cx p s m args meth c cX12_fails RX12 2 D tc b0) (hr : meth.sig.returnType = (some FieldType.boolean)) (hS : va_S (AA b0) s.heap H locs) (hW : Wd G D tc b0 σ H) (hl : hL b0 ls 2 [some (.inr (.inr l0)), some (.inl l1)]) (h : X_X12_fails_0 G Qx l0 l1  σ) : W p l e rm_X12_fails s m args below meth c H locs 0 0 (MQ below (va_Qi Qx (fun u t => Pw G D tc b0 u t) (AA b0)) args s 0 0 (AA b0)) (F0 m 0 ls []) := by
  have hx := C.1
  have hb := C.2.1
  unfold X_X12_fails_0 at h
  refine x_aload_n C hl dX12_fails_0 rfl ?_
  refine x_iload_n C hl dX12_fails_1 rfl ?_
  have t1 := h.1
  replace h := h.2
  refine x_putI C hW hS (t := 12) (k := 54) t1 kl_12 (by decide) fl_X12_258 rfl rfl rfl rfl dX12_fails_2 (fun H locs hW hS => ?_)
  obtain ⟨s2, e_s2⟩ : ∃ z : Mem, z = (sI σ l0 54 l1) := ⟨_, rfl⟩
  replace h := h s2 e_s2
  replace hW : Wd G D tc b0 s2 H := by rw [e_s2]; exact hW
  refine x_aload_n C hl dX12_fails_5 rfl ?_
  refine x_aload_n C hl dX12_fails_6 rfl ?_
  refine x_get C hW (t := 12) (k := 49) t1 kl_12 (by decide) fl_X12_237 (v := .int (mI s2 l0 49)) rfl dX12_fails_7 ?_
  refine x_putI C hW hS (t := 12) (k := 55) t1 kl_12 (by decide) fl_X12_141 rfl rfl rfl rfl dX12_fails_10 (fun H locs hW hS => ?_)
  obtain ⟨s3, e_s3⟩ : ∃ z : Mem, z = (sI s2 l0 55 (mI s2 l0 49)) := ⟨_, rfl⟩
  replace h := h s3 e_s3
  replace hW : Wd G D tc b0 s3 H := by rw [e_s3]; exact hW
  refine lv_iconst (v := (0 : Int32)) hx hb dX12_fails_13 (by decide) ?_
  exact r_z C hr hW hS h.1 h.2 dX12_fails_14
theorem T_X12_fails (l : Launch) {G : Lay} {D : va_G} {tc : Nat → ClassId} {b0 : Nat} (l0 : Nat) (l1 : Int32) (σ : Mem) (Qx : Int32 → Mem → Prop) (h : X_X12_fails G Qx l0 l1 σ) : MI l yX12_fails cX12_fails 2 ((some FieldType.boolean)) rm_X12_fails G D tc b0 [rv b0 l0, .int l1] σ Qx :=
  x_entry (y := yX12_fails) [.inr (.inr l0), .inl l1] 0 (by decide) (Nat.le_of_ble_eq_true rfl) (fun p e s m args below meth c ls C hr hW hl => t_X12_fails_0 C hr va_S.rf hW (hl.keep [true, true] rfl) h)
/-! X12_wrong -/
set_option maxRecDepth 20000 in
set_option maxHeartbeats 4000000 in
theorem t_X12_wrong_14 {p : Program} {l : Launch} {e : Env} {s : State} {m : MethodId} {args : Array Value} {below : List Frame} {meth : Method} {c : Code} {H : Heap} {locs : List Loc} {D : va_G} {tc : Nat → ClassId} {b0 : Nat} {ls : Array Slot} {G : Lay} {Qx : Int32 → Mem → Prop}  {k0 : Nat} {k1 : Int32} {σ : Mem} (C : Cx p s m args meth c cX12_wrong RX12 1 D tc b0) (hr : meth.sig.returnType = (some FieldType.boolean)) (hS : va_S (AA b0) s.heap H locs) (hW : Wd G D tc b0 σ H) (hl : hL b0 ls 1 [none]) (h : X_X12_wrong_14 G Qx  k0 k1 σ) : W p l e rm_X12_wrong s m args below meth c H locs 0 0 (MQ below (va_Qi Qx (fun u t => Pw G D tc b0 u t) (AA b0)) args s 0 0 (AA b0)) (F0 m 14 ls [.int k1, rv b0 k0]) := by
  have hx := C.1
  have hb := C.2.1
  unfold X_X12_wrong_14 at h
  have t1 := h.1
  replace h := h.2
  refine y_i (x_run (As := [.int k1]) C hW hS (T_X12_fails l k0 k1 σ _ h) t1 kl_12 (CW.of yv_X12_fails ml_X12_261) ⟨rfl, rfl, ⟨by decide, by decide⟩, by decide, by decide⟩ rfl hl.1 rfl (by decide) dX12_wrong_14) hS (fun w3 s2 H locs h hW hS => ?_)
  exact r_z C hr hW hS h.1 h.2 dX12_wrong_17
set_option maxRecDepth 20000 in
set_option maxHeartbeats 4000000 in
theorem t_X12_wrong_0 {p : Program} {l : Launch} {e : Env} {s : State} {m : MethodId} {args : Array Value} {below : List Frame} {meth : Method} {c : Code} {H : Heap} {locs : List Loc} {D : va_G} {tc : Nat → ClassId} {b0 : Nat} {ls : Array Slot} {G : Lay} {Qx : Int32 → Mem → Prop} {l0 : Nat}  {σ : Mem} (C : Cx p s m args meth c cX12_wrong RX12 1 D tc b0) (hr : meth.sig.returnType = (some FieldType.boolean)) (hS : va_S (AA b0) s.heap H locs) (hW : Wd G D tc b0 σ H) (hl : hL b0 ls 1 [some (.inr (.inr l0))]) (h : X_X12_wrong_0 G Qx l0  σ) : W p l e rm_X12_wrong s m args below meth c H locs 0 0 (MQ below (va_Qi Qx (fun u t => Pw G D tc b0 u t) (AA b0)) args s 0 0 (AA b0)) (F0 m 0 ls []) := by
  have hx := C.1
  have hb := C.2.1
  unfold X_X12_wrong_0 at h
  refine x_aload_n C hl dX12_wrong_0 rfl ?_
  refine x_aload_n C hl dX12_wrong_1 rfl ?_
  have t1 := h.1
  replace h := h.2
  refine x_get C hW (t := 12) (k := 51) t1 kl_12 (by decide) fl_X12_243 (v := .int (mI σ l0 51)) rfl dX12_wrong_2 ?_
  refine lv_iconst (v := (1 : Int32)) hx hb dX12_wrong_5 (by decide) ?_
  refine lv_icmp_ne hx hb dX12_wrong_6 (tgt := 13) rfl (fun hc => ?_) (fun hc => ?_)
  · replace h := h.2 hc
    refine lv_iconst (v := (2 : Int32)) hx hb dX12_wrong_13 (by decide) ?_
    exact t_X12_wrong_14 C hr hS hW (hl.keep [false] rfl) h
  · replace h := h.1 hc
    refine lv_iconst (v := (1 : Int32)) hx hb dX12_wrong_9 (by decide) ?_
    refine lv_goto hx hb dX12_wrong_10 (tgt := 14) rfl ?_
    exact t_X12_wrong_14 C hr hS hW (hl.keep [false] rfl) h
theorem T_X12_wrong (l : Launch) {G : Lay} {D : va_G} {tc : Nat → ClassId} {b0 : Nat} (l0 : Nat) (σ : Mem) (Qx : Int32 → Mem → Prop) (h : X_X12_wrong G Qx l0 σ) : MI l yX12_wrong cX12_wrong 1 ((some FieldType.boolean)) rm_X12_wrong G D tc b0 [rv b0 l0] σ Qx :=
  x_entry (y := yX12_wrong) [.inr (.inr l0)] 0 (by decide) (Nat.le_of_ble_eq_true rfl) (fun p e s m args below meth c ls C hr hW hl => t_X12_wrong_0 C hr va_S.rf hW (hl.keep [true] rfl) h)
/-! X12_is -/
set_option maxRecDepth 20000 in
set_option maxHeartbeats 4000000 in
theorem t_X12_is_21 {p : Program} {l : Launch} {e : Env} {s : State} {m : MethodId} {args : Array Value} {below : List Frame} {meth : Method} {c : Code} {H : Heap} {locs : List Loc} {D : va_G} {tc : Nat → ClassId} {b0 : Nat} {ls : Array Slot} {G : Lay} {Qx : Int32 → Mem → Prop}  {k0 : Int32} {σ : Mem} (C : Cx p s m args meth c cX12_is RX12 2 D tc b0) (hr : meth.sig.returnType = (some FieldType.boolean)) (hS : va_S (AA b0) s.heap H locs) (hW : Wd G D tc b0 σ H) (hl : hL b0 ls 2 [none, none]) (h : X_X12_is_21 G Qx  k0 σ) : W p l e rm_X12_is s m args below meth c H locs 0 0 (MQ below (va_Qi Qx (fun u t => Pw G D tc b0 u t) (AA b0)) args s 0 0 (AA b0)) (F0 m 21 ls [.int k0]) := by
  have hx := C.1
  have hb := C.2.1
  unfold X_X12_is_21 at h
  exact r_z C hr hW hS h.1 h.2 dX12_is_21
set_option maxRecDepth 20000 in
set_option maxHeartbeats 4000000 in
theorem t_X12_is_20 {p : Program} {l : Launch} {e : Env} {s : State} {m : MethodId} {args : Array Value} {below : List Frame} {meth : Method} {c : Code} {H : Heap} {locs : List Loc} {D : va_G} {tc : Nat → ClassId} {b0 : Nat} {ls : Array Slot} {G : Lay} {Qx : Int32 → Mem → Prop}   {σ : Mem} (C : Cx p s m args meth c cX12_is RX12 2 D tc b0) (hr : meth.sig.returnType = (some FieldType.boolean)) (hS : va_S (AA b0) s.heap H locs) (hW : Wd G D tc b0 σ H) (hl : hL b0 ls 2 [none, none]) (h : X_X12_is_20 G Qx   σ) : W p l e rm_X12_is s m args below meth c H locs 0 0 (MQ below (va_Qi Qx (fun u t => Pw G D tc b0 u t) (AA b0)) args s 0 0 (AA b0)) (F0 m 20 ls []) := by
  have hx := C.1
  have hb := C.2.1
  unfold X_X12_is_20 at h
  refine lv_iconst (v := (0 : Int32)) hx hb dX12_is_20 (by decide) ?_
  exact t_X12_is_21 C hr hS hW (hl.keep [false, false] rfl) h
set_option maxRecDepth 20000 in
set_option maxHeartbeats 4000000 in
theorem t_X12_is_0 {p : Program} {l : Launch} {e : Env} {s : State} {m : MethodId} {args : Array Value} {below : List Frame} {meth : Method} {c : Code} {H : Heap} {locs : List Loc} {D : va_G} {tc : Nat → ClassId} {b0 : Nat} {ls : Array Slot} {G : Lay} {Qx : Int32 → Mem → Prop} {l0 : Nat} {l1 : Int32}  {σ : Mem} (C : Cx p s m args meth c cX12_is RX12 2 D tc b0) (hr : meth.sig.returnType = (some FieldType.boolean)) (hS : va_S (AA b0) s.heap H locs) (hW : Wd G D tc b0 σ H) (hl : hL b0 ls 2 [some (.inr (.inr l0)), some (.inl l1)]) (h : X_X12_is_0 G Qx l0 l1  σ) : W p l e rm_X12_is s m args below meth c H locs 0 0 (MQ below (va_Qi Qx (fun u t => Pw G D tc b0 u t) (AA b0)) args s 0 0 (AA b0)) (F0 m 0 ls []) := by
  have hx := C.1
  have hb := C.2.1
  unfold X_X12_is_0 at h
  refine x_aload_n C hl dX12_is_0 rfl ?_
  have t1 := h.1
  replace h := h.2
  refine x_get C hW (t := 12) (k := 51) t1 kl_12 (by decide) fl_X12_243 (v := .int (mI σ l0 51)) rfl dX12_is_1 ?_
  refine lv_iconst (v := (4 : Int32)) hx hb dX12_is_4 (by decide) ?_
  refine lv_icmp_ne hx hb dX12_is_5 (tgt := 20) rfl (fun hc => ?_) (fun hc => ?_)
  · replace h := h.2 hc
    exact t_X12_is_20 C hr hS hW (hl.keep [false, false] rfl) h
  · replace h := h.1 hc
    refine x_aload_n C hl dX12_is_8 rfl ?_
    refine x_get C hW (t := 12) (k := 53) t1 kl_12 (by decide) fl_X12_252 (v := .int (mI σ l0 53)) rfl dX12_is_9 ?_
    refine x_iload_n C hl dX12_is_12 rfl ?_
    refine lv_icmp_ne hx hb dX12_is_13 (tgt := 20) rfl (fun hc => ?_) (fun hc => ?_)
    · replace h := h.2 hc
      exact t_X12_is_20 C hr hS hW (hl.keep [false, false] rfl) h
    · replace h := h.1 hc
      refine lv_iconst (v := (1 : Int32)) hx hb dX12_is_16 (by decide) ?_
      refine lv_goto hx hb dX12_is_17 (tgt := 21) rfl ?_
      exact t_X12_is_21 C hr hS hW (hl.keep [false, false] rfl) h
theorem T_X12_is (l : Launch) {G : Lay} {D : va_G} {tc : Nat → ClassId} {b0 : Nat} (l0 : Nat) (l1 : Int32) (σ : Mem) (Qx : Int32 → Mem → Prop) (h : X_X12_is G Qx l0 l1 σ) : MI l yX12_is cX12_is 2 ((some FieldType.boolean)) rm_X12_is G D tc b0 [rv b0 l0, .int l1] σ Qx :=
  x_entry (y := yX12_is) [.inr (.inr l0), .inl l1] 0 (by decide) (Nat.le_of_ble_eq_true rfl) (fun p e s m args below meth c ls C hr hW hl => t_X12_is_0 C hr va_S.rf hW (hl.keep [true, true] rfl) h)
/-! X12_needs -/
set_option maxRecDepth 20000 in
set_option maxHeartbeats 4000000 in
theorem t_X12_needs_0 {p : Program} {l : Launch} {e : Env} {s : State} {m : MethodId} {args : Array Value} {below : List Frame} {meth : Method} {c : Code} {H : Heap} {locs : List Loc} {D : va_G} {tc : Nat → ClassId} {b0 : Nat} {ls : Array Slot} {G : Lay} {Qx : Int32 → Mem → Prop} {l0 : Nat} {l1 : Int32}  {σ : Mem} (C : Cx p s m args meth c cX12_needs RX12 2 D tc b0) (hr : meth.sig.returnType = (some FieldType.boolean)) (hS : va_S (AA b0) s.heap H locs) (hW : Wd G D tc b0 σ H) (hl : hL b0 ls 2 [some (.inr (.inr l0)), some (.inl l1)]) (h : X_X12_needs_0 G Qx l0 l1  σ) : W p l e rm_X12_needs s m args below meth c H locs 0 0 (MQ below (va_Qi Qx (fun u t => Pw G D tc b0 u t) (AA b0)) args s 0 0 (AA b0)) (F0 m 0 ls []) := by
  have hx := C.1
  have hb := C.2.1
  unfold X_X12_needs_0 at h
  refine x_aload_n C hl dX12_needs_0 rfl ?_
  refine x_iload_n C hl dX12_needs_1 rfl ?_
  have t1 := h.1
  replace h := h.2
  refine y_i (x_run (As := [.int l1]) C hW hS (T_X12_is l l0 l1 σ _ h) t1 kl_12 (CW.of yv_X12_is ml_X12_264) ⟨rfl, rfl, ⟨by decide, by decide⟩, by decide, by decide⟩ rfl hl.1 rfl (by decide) dX12_needs_2) hS (fun w3 s2 H locs h hW hS => ?_)
  refine lv_if_ne hx hb dX12_needs_5 (tgt := 13) rfl (fun hc => ?_) (fun hc => ?_)
  · replace h := h.2 hc
    refine x_aload_n C hl dX12_needs_13 rfl ?_
    refine y_v (x_run (As := []) C hW hS (T_X12_advance l l0 s2 _ h) t1 kl_12 (CW.of yv_X12_advance ml_X12_271) ⟨rfl, rfl, ⟨by decide, by decide⟩, by decide, by decide⟩ rfl hl.1 rfl (by decide) dX12_needs_14) hS (fun s4 H locs h hW hS => ?_)
    refine lv_iconst (v := (1 : Int32)) hx hb dX12_needs_17 (by decide) ?_
    exact r_z C hr hW hS h.1 h.2 dX12_needs_18
  · replace h := h.1 hc
    refine x_aload_n C hl dX12_needs_8 rfl ?_
    refine y_i (x_run (As := []) C hW hS (T_X12_wrong l l0 s2 _ h) t1 kl_12 (CW.of yv_X12_wrong ml_X12_267) ⟨rfl, rfl, ⟨by decide, by decide⟩, by decide, by decide⟩ rfl hl.1 rfl (by decide) dX12_needs_9) hS (fun w6 s5 H locs h hW hS => ?_)
    exact r_z C hr hW hS h.1 h.2 dX12_needs_12
theorem T_X12_needs (l : Launch) {G : Lay} {D : va_G} {tc : Nat → ClassId} {b0 : Nat} (l0 : Nat) (l1 : Int32) (σ : Mem) (Qx : Int32 → Mem → Prop) (h : X_X12_needs G Qx l0 l1 σ) : MI l yX12_needs cX12_needs 2 ((some FieldType.boolean)) rm_X12_needs G D tc b0 [rv b0 l0, .int l1] σ Qx :=
  x_entry (y := yX12_needs) [.inr (.inr l0), .inl l1] 0 (by decide) (Nat.le_of_ble_eq_true rfl) (fun p e s m args below meth c ls C hr hW hl => t_X12_needs_0 C hr va_S.rf hW (hl.keep [true, true] rfl) h)
/-! X12_two -/
set_option maxRecDepth 20000 in
set_option maxHeartbeats 4000000 in
theorem t_X12_two_0 {p : Program} {l : Launch} {e : Env} {s : State} {m : MethodId} {args : Array Value} {below : List Frame} {meth : Method} {c : Code} {H : Heap} {locs : List Loc} {D : va_G} {tc : Nat → ClassId} {b0 : Nat} {ls : Array Slot} {G : Lay} {Qx : Int64 → Mem → Prop} {l0 : Int64} {l2 : Int32} {l3 : Int32}  {σ : Mem} (C : Cx p s m args meth c cX12_two RX12 4 D tc b0) (hr : meth.sig.returnType = (some FieldType.long)) (hS : va_S (AA b0) s.heap H locs) (hW : Wd G D tc b0 σ H) (hl : hL b0 ls 4 [some (.inr (.inl l0)), none, some (.inl l2), some (.inl l3)]) (h : X_X12_two_0 G Qx l0 l2 l3  σ) : W p l e rm_X12_two s m args below meth c H locs 0 0 (MQ below (va_Ql Qx (fun u t => Pw G D tc b0 u t) (AA b0)) args s 0 0 (AA b0)) (F0 m 0 ls []) := by
  have hx := C.1
  have hb := C.2.1
  unfold X_X12_two_0 at h
  refine x_lload_n C hl dX12_two_0 rfl ?_
  refine lv_ldc2 (own := RX12) (v := (64 : Int64)) hx hb C.2.2.2.1 (C.2.2.2.2.1 _ (gc8 72 rfl rfl)) dX12_two_1 ?_
  refine lv_lmul hx hb dX12_two_4 ?_
  refine x_iload_n C hl dX12_two_5 rfl ?_
  refine lv_i2l hx hb dX12_two_6 rfl ?_
  refine lv_ladd hx hb dX12_two_7 ?_
  refine lv_ldc2 (own := RX12) (v := (96 : Int64)) hx hb C.2.2.2.1 (C.2.2.2.2.1 _ (gc8 87 rfl rfl)) dX12_two_8 ?_
  refine lv_lsub hx hb dX12_two_11 ?_
  refine lv_ldc2 (own := RX12) (v := (64 : Int64)) hx hb C.2.2.2.1 (C.2.2.2.2.1 _ (gc8 72 rfl rfl)) dX12_two_12 ?_
  refine lv_lmul hx hb dX12_two_15 ?_
  refine x_iload_n C hl dX12_two_16 rfl ?_
  refine lv_i2l hx hb dX12_two_17 rfl ?_
  refine lv_ladd hx hb dX12_two_18 ?_
  refine lv_ldc2 (own := RX12) (v := (96 : Int64)) hx hb C.2.2.2.1 (C.2.2.2.2.1 _ (gc8 87 rfl rfl)) dX12_two_19 ?_
  refine lv_lsub hx hb dX12_two_22 ?_
  exact r_l C hr hW hS h dX12_two_23
theorem T_X12_two (l : Launch) {G : Lay} {D : va_G} {tc : Nat → ClassId} {b0 : Nat} (l0 : Int64) (l2 : Int32) (l3 : Int32) (σ : Mem) (Qx : Int64 → Mem → Prop) (h : X_X12_two G Qx l0 l2 l3 σ) : ML l yX12_two cX12_two 4 ((some FieldType.long)) rm_X12_two G D tc b0 [.long l0, .int l2, .int l3] σ Qx :=
  x_entry (y := yX12_two) [.inr (.inl l0), .inl l2, .inl l3] 0 (by decide) (Nat.le_of_ble_eq_true rfl) (fun p e s m args below meth c ls C hr hW hl => t_X12_two_0 C hr va_S.rf hW (hl.keep [true, false, true, true] rfl) h)
/-! X12_one -/
set_option maxRecDepth 20000 in
set_option maxHeartbeats 4000000 in
theorem t_X12_one_0 {p : Program} {l : Launch} {e : Env} {s : State} {m : MethodId} {args : Array Value} {below : List Frame} {meth : Method} {c : Code} {H : Heap} {locs : List Loc} {D : va_G} {tc : Nat → ClassId} {b0 : Nat} {ls : Array Slot} {G : Lay} {Qx : Int64 → Mem → Prop} {l0 : Int64} {l2 : Int32}  {σ : Mem} (C : Cx p s m args meth c cX12_one RX12 3 D tc b0) (hr : meth.sig.returnType = (some FieldType.long)) (hS : va_S (AA b0) s.heap H locs) (hW : Wd G D tc b0 σ H) (hl : hL b0 ls 3 [some (.inr (.inl l0)), none, some (.inl l2)]) (h : X_X12_one_0 G Qx l0 l2  σ) : W p l e rm_X12_one s m args below meth c H locs 0 0 (MQ below (va_Ql Qx (fun u t => Pw G D tc b0 u t) (AA b0)) args s 0 0 (AA b0)) (F0 m 0 ls []) := by
  have hx := C.1
  have hb := C.2.1
  unfold X_X12_one_0 at h
  refine x_lload_n C hl dX12_one_0 rfl ?_
  refine lv_ldc2 (own := RX12) (v := (64 : Int64)) hx hb C.2.2.2.1 (C.2.2.2.2.1 _ (gc8 72 rfl rfl)) dX12_one_1 ?_
  refine lv_lmul hx hb dX12_one_4 ?_
  refine x_iload_n C hl dX12_one_5 rfl ?_
  refine lv_i2l hx hb dX12_one_6 rfl ?_
  refine lv_ladd hx hb dX12_one_7 ?_
  refine lv_ldc2 (own := RX12) (v := (96 : Int64)) hx hb C.2.2.2.1 (C.2.2.2.2.1 _ (gc8 87 rfl rfl)) dX12_one_8 ?_
  refine lv_lsub hx hb dX12_one_11 ?_
  exact r_l C hr hW hS h dX12_one_12
theorem T_X12_one (l : Launch) {G : Lay} {D : va_G} {tc : Nat → ClassId} {b0 : Nat} (l0 : Int64) (l2 : Int32) (σ : Mem) (Qx : Int64 → Mem → Prop) (h : X_X12_one G Qx l0 l2 σ) : ML l yX12_one cX12_one 3 ((some FieldType.long)) rm_X12_one G D tc b0 [.long l0, .int l2] σ Qx :=
  x_entry (y := yX12_one) [.inr (.inl l0), .inl l2] 0 (by decide) (Nat.le_of_ble_eq_true rfl) (fun p e s m args below meth c ls C hr hW hl => t_X12_one_0 C hr va_S.rf hW (hl.keep [true, false, true] rfl) h)
/-! X12_toldWord -/
set_option maxRecDepth 20000 in
set_option maxHeartbeats 4000000 in
theorem t_X12_toldWord_0 {p : Program} {l : Launch} {e : Env} {s : State} {m : MethodId} {args : Array Value} {below : List Frame} {meth : Method} {c : Code} {H : Heap} {locs : List Loc} {D : va_G} {tc : Nat → ClassId} {b0 : Nat} {ls : Array Slot} {G : Lay} {Qx : Int32 → Mem → Prop} {l0 : Nat}  {σ : Mem} (C : Cx p s m args meth c cX12_toldWord RX12 3 D tc b0) (hr : meth.sig.returnType = (some FieldType.int)) (hS : va_S (AA b0) s.heap H locs) (hW : Wd G D tc b0 σ H) (hl : hL b0 ls 3 [some (.inr (.inr l0)), none, none]) (h : X_X12_toldWord_0 G Qx l0  σ) : W p l e rm_X12_toldWord s m args below meth c H locs 0 0 (MQ below (va_Qi Qx (fun u t => Pw G D tc b0 u t) (AA b0)) args s 0 0 (AA b0)) (F0 m 0 ls []) := by
  have hx := C.1
  have hb := C.2.1
  unfold X_X12_toldWord_0 at h
  refine x_aload_n C hl dX12_toldWord_0 rfl ?_
  have t1 := h.1
  replace h := h.2
  refine x_get C hW (t := 12) (k := 51) t1 kl_12 (by decide) fl_X12_243 (v := .int (mI σ l0 51)) rfl dX12_toldWord_1 ?_
  refine lv_iconst (v := (2 : Int32)) hx hb dX12_toldWord_4 (by decide) ?_
  refine lv_icmp_eq hx hb dX12_toldWord_5 (tgt := 10) rfl (fun hc => ?_) (fun hc => ?_)
  · replace h := h.1 hc
    refine x_aload_n C hl dX12_toldWord_10 rfl ?_
    refine x_get C hW (t := 12) (k := 52) t1 kl_12 (by decide) fl_X12_246 (v := .long (mJ σ l0 52)) rfl dX12_toldWord_11 ?_
    refine x_lstore_n C hl dX12_toldWord_14 (by decide) rfl (fun ls hl => ?_)
    refine x_lload_n C hl dX12_toldWord_15 rfl ?_
    refine lv_lconst (v := (0 : Int64)) hx hb dX12_toldWord_16 (by decide) ?_
    refine lv_bipush (v := (99 : Int32)) hx hb dX12_toldWord_17 (by decide) ?_
    refine lv_bipush (v := (108 : Int32)) hx hb dX12_toldWord_19 (by decide) ?_
    refine y_l (x_runS (As := [.long (0 : Int64), .int (99 : Int32), .int (108 : Int32)]) C hW hS (T_X12_two l (0 : Int64) (99 : Int32) (108 : Int32) σ _ h) (CS.of yv_X12_two ml_X12_276) ⟨rfl, rfl, ⟨by decide, by decide⟩, by decide, by decide⟩ rfl hl.1 rfl (by simp [rv_cat, cat_i, cat_l]) dX12_toldWord_21) hS (fun w3 s2 H locs h hW hS => ?_)
    refine lv_bipush (v := (97 : Int32)) hx hb dX12_toldWord_24 (by decide) ?_
    refine lv_bipush (v := (115 : Int32)) hx hb dX12_toldWord_26 (by decide) ?_
    refine y_l (x_runS (As := [.long w3, .int (97 : Int32), .int (115 : Int32)]) C hW hS (T_X12_two l w3 (97 : Int32) (115 : Int32) s2 _ h) (CS.of yv_X12_two ml_X12_276) ⟨rfl, rfl, ⟨by decide, by decide⟩, by decide, by decide⟩ rfl hl.1 rfl (by simp [rv_cat, cat_i, cat_l]) dX12_toldWord_28) hS (fun w5 s4 H locs h hW hS => ?_)
    refine lv_bipush (v := (115 : Int32)) hx hb dX12_toldWord_31 (by decide) ?_
    refine y_l (x_runS (As := [.long w5, .int (115 : Int32)]) C hW hS (T_X12_one l w5 (115 : Int32) s4 _ h) (CS.of yv_X12_one ml_X12_280) ⟨rfl, rfl, ⟨by decide, by decide⟩, by decide, by decide⟩ rfl hl.1 rfl (by simp [rv_cat, cat_i, cat_l]) dX12_toldWord_33) hS (fun w7 s6 H locs h hW hS => ?_)
    refine W.lcmp hx hb dX12_toldWord_36 ?_
    refine lv_if_ne hx hb dX12_toldWord_37 (tgt := 42) rfl (fun hc => ?_) (fun hc => ?_)
    · replace h := h.2 hc
      refine x_lload_n C hl dX12_toldWord_42 rfl ?_
      refine lv_lconst (v := (0 : Int64)) hx hb dX12_toldWord_43 (by decide) ?_
      refine lv_bipush (v := (111 : Int32)) hx hb dX12_toldWord_44 (by decide) ?_
      refine lv_bipush (v := (102 : Int32)) hx hb dX12_toldWord_46 (by decide) ?_
      refine y_l (x_runS (As := [.long (0 : Int64), .int (111 : Int32), .int (102 : Int32)]) C hW hS (T_X12_two l (0 : Int64) (111 : Int32) (102 : Int32) s6 _ h) (CS.of yv_X12_two ml_X12_276) ⟨rfl, rfl, ⟨by decide, by decide⟩, by decide, by decide⟩ rfl hl.1 rfl (by simp [rv_cat, cat_i, cat_l]) dX12_toldWord_48) hS (fun w9 s8 H locs h hW hS => ?_)
      refine W.lcmp hx hb dX12_toldWord_51 ?_
      refine lv_if_ne hx hb dX12_toldWord_52 (tgt := 57) rfl (fun hc => ?_) (fun hc => ?_)
      · replace h := h.2 hc
        refine x_lload_n C hl dX12_toldWord_57 rfl ?_
        refine lv_lconst (v := (0 : Int64)) hx hb dX12_toldWord_58 (by decide) ?_
        refine lv_bipush (v := (119 : Int32)) hx hb dX12_toldWord_59 (by decide) ?_
        refine lv_bipush (v := (97 : Int32)) hx hb dX12_toldWord_61 (by decide) ?_
        refine y_l (x_runS (As := [.long (0 : Int64), .int (119 : Int32), .int (97 : Int32)]) C hW hS (T_X12_two l (0 : Int64) (119 : Int32) (97 : Int32) s8 _ h) (CS.of yv_X12_two ml_X12_276) ⟨rfl, rfl, ⟨by decide, by decide⟩, by decide, by decide⟩ rfl hl.1 rfl (by simp [rv_cat, cat_i, cat_l]) dX12_toldWord_63) hS (fun w11 s10 H locs h hW hS => ?_)
        refine lv_bipush (v := (121 : Int32)) hx hb dX12_toldWord_66 (by decide) ?_
        refine y_l (x_runS (As := [.long w11, .int (121 : Int32)]) C hW hS (T_X12_one l w11 (121 : Int32) s10 _ h) (CS.of yv_X12_one ml_X12_280) ⟨rfl, rfl, ⟨by decide, by decide⟩, by decide, by decide⟩ rfl hl.1 rfl (by simp [rv_cat, cat_i, cat_l]) dX12_toldWord_68) hS (fun w13 s12 H locs h hW hS => ?_)
        refine W.lcmp hx hb dX12_toldWord_71 ?_
        refine lv_if_ne hx hb dX12_toldWord_72 (tgt := 77) rfl (fun hc => ?_) (fun hc => ?_)
        · replace h := h.2 hc
          refine x_lload_n C hl dX12_toldWord_77 rfl ?_
          refine lv_lconst (v := (0 : Int64)) hx hb dX12_toldWord_78 (by decide) ?_
          refine lv_bipush (v := (111 : Int32)) hx hb dX12_toldWord_79 (by decide) ?_
          refine lv_bipush (v := (110 : Int32)) hx hb dX12_toldWord_81 (by decide) ?_
          refine y_l (x_runS (As := [.long (0 : Int64), .int (111 : Int32), .int (110 : Int32)]) C hW hS (T_X12_two l (0 : Int64) (111 : Int32) (110 : Int32) s12 _ h) (CS.of yv_X12_two ml_X12_276) ⟨rfl, rfl, ⟨by decide, by decide⟩, by decide, by decide⟩ rfl hl.1 rfl (by simp [rv_cat, cat_i, cat_l]) dX12_toldWord_83) hS (fun w15 s14 H locs h hW hS => ?_)
          refine lv_bipush (v := (101 : Int32)) hx hb dX12_toldWord_86 (by decide) ?_
          refine y_l (x_runS (As := [.long w15, .int (101 : Int32)]) C hW hS (T_X12_one l w15 (101 : Int32) s14 _ h) (CS.of yv_X12_one ml_X12_280) ⟨rfl, rfl, ⟨by decide, by decide⟩, by decide, by decide⟩ rfl hl.1 rfl (by simp [rv_cat, cat_i, cat_l]) dX12_toldWord_88) hS (fun w17 s16 H locs h hW hS => ?_)
          refine W.lcmp hx hb dX12_toldWord_91 ?_
          refine lv_if_ne hx hb dX12_toldWord_92 (tgt := 97) rfl (fun hc => ?_) (fun hc => ?_)
          · replace h := h.2 hc
            refine x_lload_n C hl dX12_toldWord_97 rfl ?_
            refine lv_lconst (v := (0 : Int64)) hx hb dX12_toldWord_98 (by decide) ?_
            refine lv_bipush (v := (106 : Int32)) hx hb dX12_toldWord_99 (by decide) ?_
            refine lv_bipush (v := (111 : Int32)) hx hb dX12_toldWord_101 (by decide) ?_
            refine y_l (x_runS (As := [.long (0 : Int64), .int (106 : Int32), .int (111 : Int32)]) C hW hS (T_X12_two l (0 : Int64) (106 : Int32) (111 : Int32) s16 _ h) (CS.of yv_X12_two ml_X12_276) ⟨rfl, rfl, ⟨by decide, by decide⟩, by decide, by decide⟩ rfl hl.1 rfl (by simp [rv_cat, cat_i, cat_l]) dX12_toldWord_103) hS (fun w19 s18 H locs h hW hS => ?_)
            refine lv_bipush (v := (105 : Int32)) hx hb dX12_toldWord_106 (by decide) ?_
            refine lv_bipush (v := (110 : Int32)) hx hb dX12_toldWord_108 (by decide) ?_
            refine y_l (x_runS (As := [.long w19, .int (105 : Int32), .int (110 : Int32)]) C hW hS (T_X12_two l w19 (105 : Int32) (110 : Int32) s18 _ h) (CS.of yv_X12_two ml_X12_276) ⟨rfl, rfl, ⟨by decide, by decide⟩, by decide, by decide⟩ rfl hl.1 rfl (by simp [rv_cat, cat_i, cat_l]) dX12_toldWord_110) hS (fun w21 s20 H locs h hW hS => ?_)
            refine lv_bipush (v := (101 : Int32)) hx hb dX12_toldWord_113 (by decide) ?_
            refine lv_bipush (v := (100 : Int32)) hx hb dX12_toldWord_115 (by decide) ?_
            refine y_l (x_runS (As := [.long w21, .int (101 : Int32), .int (100 : Int32)]) C hW hS (T_X12_two l w21 (101 : Int32) (100 : Int32) s20 _ h) (CS.of yv_X12_two ml_X12_276) ⟨rfl, rfl, ⟨by decide, by decide⟩, by decide, by decide⟩ rfl hl.1 rfl (by simp [rv_cat, cat_i, cat_l]) dX12_toldWord_117) hS (fun w23 s22 H locs h hW hS => ?_)
            refine W.lcmp hx hb dX12_toldWord_120 ?_
            refine lv_if_ne hx hb dX12_toldWord_121 (tgt := 126) rfl (fun hc => ?_) (fun hc => ?_)
            · replace h := h.2 hc
              refine x_lload_n C hl dX12_toldWord_126 rfl ?_
              refine lv_lconst (v := (0 : Int64)) hx hb dX12_toldWord_127 (by decide) ?_
              refine lv_bipush (v := (111 : Int32)) hx hb dX12_toldWord_128 (by decide) ?_
              refine lv_bipush (v := (119 : Int32)) hx hb dX12_toldWord_130 (by decide) ?_
              refine y_l (x_runS (As := [.long (0 : Int64), .int (111 : Int32), .int (119 : Int32)]) C hW hS (T_X12_two l (0 : Int64) (111 : Int32) (119 : Int32) s22 _ h) (CS.of yv_X12_two ml_X12_276) ⟨rfl, rfl, ⟨by decide, by decide⟩, by decide, by decide⟩ rfl hl.1 rfl (by simp [rv_cat, cat_i, cat_l]) dX12_toldWord_132) hS (fun w25 s24 H locs h hW hS => ?_)
              refine lv_bipush (v := (110 : Int32)) hx hb dX12_toldWord_135 (by decide) ?_
              refine y_l (x_runS (As := [.long w25, .int (110 : Int32)]) C hW hS (T_X12_one l w25 (110 : Int32) s24 _ h) (CS.of yv_X12_one ml_X12_280) ⟨rfl, rfl, ⟨by decide, by decide⟩, by decide, by decide⟩ rfl hl.1 rfl (by simp [rv_cat, cat_i, cat_l]) dX12_toldWord_137) hS (fun w27 s26 H locs h hW hS => ?_)
              refine W.lcmp hx hb dX12_toldWord_140 ?_
              refine lv_if_ne hx hb dX12_toldWord_141 (tgt := 146) rfl (fun hc => ?_) (fun hc => ?_)
              · replace h := h.2 hc
                refine x_lload_n C hl dX12_toldWord_146 rfl ?_
                refine lv_lconst (v := (0 : Int64)) hx hb dX12_toldWord_147 (by decide) ?_
                refine lv_bipush (v := (116 : Int32)) hx hb dX12_toldWord_148 (by decide) ?_
                refine lv_bipush (v := (111 : Int32)) hx hb dX12_toldWord_150 (by decide) ?_
                refine y_l (x_runS (As := [.long (0 : Int64), .int (116 : Int32), .int (111 : Int32)]) C hW hS (T_X12_two l (0 : Int64) (116 : Int32) (111 : Int32) s26 _ h) (CS.of yv_X12_two ml_X12_276) ⟨rfl, rfl, ⟨by decide, by decide⟩, by decide, by decide⟩ rfl hl.1 rfl (by simp [rv_cat, cat_i, cat_l]) dX12_toldWord_152) hS (fun w29 s28 H locs h hW hS => ?_)
                refine W.lcmp hx hb dX12_toldWord_155 ?_
                refine lv_if_ne hx hb dX12_toldWord_156 (tgt := 162) rfl (fun hc => ?_) (fun hc => ?_)
                · replace h := h.2 hc
                  refine x_lload_n C hl dX12_toldWord_162 rfl ?_
                  refine lv_lconst (v := (0 : Int64)) hx hb dX12_toldWord_163 (by decide) ?_
                  refine lv_bipush (v := (108 : Int32)) hx hb dX12_toldWord_164 (by decide) ?_
                  refine lv_bipush (v := (105 : Int32)) hx hb dX12_toldWord_166 (by decide) ?_
                  refine y_l (x_runS (As := [.long (0 : Int64), .int (108 : Int32), .int (105 : Int32)]) C hW hS (T_X12_two l (0 : Int64) (108 : Int32) (105 : Int32) s28 _ h) (CS.of yv_X12_two ml_X12_276) ⟨rfl, rfl, ⟨by decide, by decide⟩, by decide, by decide⟩ rfl hl.1 rfl (by simp [rv_cat, cat_i, cat_l]) dX12_toldWord_168) hS (fun w31 s30 H locs h hW hS => ?_)
                  refine lv_bipush (v := (115 : Int32)) hx hb dX12_toldWord_171 (by decide) ?_
                  refine lv_bipush (v := (116 : Int32)) hx hb dX12_toldWord_173 (by decide) ?_
                  refine y_l (x_runS (As := [.long w31, .int (115 : Int32), .int (116 : Int32)]) C hW hS (T_X12_two l w31 (115 : Int32) (116 : Int32) s30 _ h) (CS.of yv_X12_two ml_X12_276) ⟨rfl, rfl, ⟨by decide, by decide⟩, by decide, by decide⟩ rfl hl.1 rfl (by simp [rv_cat, cat_i, cat_l]) dX12_toldWord_175) hS (fun w33 s32 H locs h hW hS => ?_)
                  refine W.lcmp hx hb dX12_toldWord_178 ?_
                  refine lv_if_ne hx hb dX12_toldWord_179 (tgt := 185) rfl (fun hc => ?_) (fun hc => ?_)
                  · replace h := h.2 hc
                    refine x_lload_n C hl dX12_toldWord_185 rfl ?_
                    refine lv_lconst (v := (0 : Int64)) hx hb dX12_toldWord_186 (by decide) ?_
                    refine lv_bipush (v := (98 : Int32)) hx hb dX12_toldWord_187 (by decide) ?_
                    refine lv_bipush (v := (121 : Int32)) hx hb dX12_toldWord_189 (by decide) ?_
                    refine y_l (x_runS (As := [.long (0 : Int64), .int (98 : Int32), .int (121 : Int32)]) C hW hS (T_X12_two l (0 : Int64) (98 : Int32) (121 : Int32) s32 _ h) (CS.of yv_X12_two ml_X12_276) ⟨rfl, rfl, ⟨by decide, by decide⟩, by decide, by decide⟩ rfl hl.1 rfl (by simp [rv_cat, cat_i, cat_l]) dX12_toldWord_191) hS (fun w35 s34 H locs h hW hS => ?_)
                    refine W.lcmp hx hb dX12_toldWord_194 ?_
                    refine lv_if_ne hx hb dX12_toldWord_195 (tgt := 201) rfl (fun hc => ?_) (fun hc => ?_)
                    · replace h := h.2 hc
                      refine x_lload_n C hl dX12_toldWord_201 rfl ?_
                      refine lv_lconst (v := (0 : Int64)) hx hb dX12_toldWord_202 (by decide) ?_
                      refine lv_bipush (v := (109 : Int32)) hx hb dX12_toldWord_203 (by decide) ?_
                      refine lv_bipush (v := (117 : Int32)) hx hb dX12_toldWord_205 (by decide) ?_
                      refine y_l (x_runS (As := [.long (0 : Int64), .int (109 : Int32), .int (117 : Int32)]) C hW hS (T_X12_two l (0 : Int64) (109 : Int32) (117 : Int32) s34 _ h) (CS.of yv_X12_two ml_X12_276) ⟨rfl, rfl, ⟨by decide, by decide⟩, by decide, by decide⟩ rfl hl.1 rfl (by simp [rv_cat, cat_i, cat_l]) dX12_toldWord_207) hS (fun w37 s36 H locs h hW hS => ?_)
                      refine lv_bipush (v := (115 : Int32)) hx hb dX12_toldWord_210 (by decide) ?_
                      refine lv_bipush (v := (116 : Int32)) hx hb dX12_toldWord_212 (by decide) ?_
                      refine y_l (x_runS (As := [.long w37, .int (115 : Int32), .int (116 : Int32)]) C hW hS (T_X12_two l w37 (115 : Int32) (116 : Int32) s36 _ h) (CS.of yv_X12_two ml_X12_276) ⟨rfl, rfl, ⟨by decide, by decide⟩, by decide, by decide⟩ rfl hl.1 rfl (by simp [rv_cat, cat_i, cat_l]) dX12_toldWord_214) hS (fun w39 s38 H locs h hW hS => ?_)
                      refine W.lcmp hx hb dX12_toldWord_217 ?_
                      refine lv_if_ne hx hb dX12_toldWord_218 (tgt := 224) rfl (fun hc => ?_) (fun hc => ?_)
                      · replace h := h.2 hc
                        refine x_lload_n C hl dX12_toldWord_224 rfl ?_
                        refine lv_lconst (v := (0 : Int64)) hx hb dX12_toldWord_225 (by decide) ?_
                        refine lv_bipush (v := (111 : Int32)) hx hb dX12_toldWord_226 (by decide) ?_
                        refine lv_bipush (v := (119 : Int32)) hx hb dX12_toldWord_228 (by decide) ?_
                        refine y_l (x_runS (As := [.long (0 : Int64), .int (111 : Int32), .int (119 : Int32)]) C hW hS (T_X12_two l (0 : Int64) (111 : Int32) (119 : Int32) s38 _ h) (CS.of yv_X12_two ml_X12_276) ⟨rfl, rfl, ⟨by decide, by decide⟩, by decide, by decide⟩ rfl hl.1 rfl (by simp [rv_cat, cat_i, cat_l]) dX12_toldWord_230) hS (fun w41 s40 H locs h hW hS => ?_)
                        refine lv_bipush (v := (110 : Int32)) hx hb dX12_toldWord_233 (by decide) ?_
                        refine lv_bipush (v := (101 : Int32)) hx hb dX12_toldWord_235 (by decide) ?_
                        refine y_l (x_runS (As := [.long w41, .int (110 : Int32), .int (101 : Int32)]) C hW hS (T_X12_two l w41 (110 : Int32) (101 : Int32) s40 _ h) (CS.of yv_X12_two ml_X12_276) ⟨rfl, rfl, ⟨by decide, by decide⟩, by decide, by decide⟩ rfl hl.1 rfl (by simp [rv_cat, cat_i, cat_l]) dX12_toldWord_237) hS (fun w43 s42 H locs h hW hS => ?_)
                        refine lv_bipush (v := (100 : Int32)) hx hb dX12_toldWord_240 (by decide) ?_
                        refine y_l (x_runS (As := [.long w43, .int (100 : Int32)]) C hW hS (T_X12_one l w43 (100 : Int32) s42 _ h) (CS.of yv_X12_one ml_X12_280) ⟨rfl, rfl, ⟨by decide, by decide⟩, by decide, by decide⟩ rfl hl.1 rfl (by simp [rv_cat, cat_i, cat_l]) dX12_toldWord_242) hS (fun w45 s44 H locs h hW hS => ?_)
                        refine W.lcmp hx hb dX12_toldWord_245 ?_
                        refine lv_if_ne hx hb dX12_toldWord_246 (tgt := 252) rfl (fun hc => ?_) (fun hc => ?_)
                        · replace h := h.2 hc
                          refine x_lload_n C hl dX12_toldWord_252 rfl ?_
                          refine lv_lconst (v := (0 : Int64)) hx hb dX12_toldWord_253 (by decide) ?_
                          refine lv_bipush (v := (117 : Int32)) hx hb dX12_toldWord_254 (by decide) ?_
                          refine lv_bipush (v := (110 : Int32)) hx hb dX12_toldWord_256 (by decide) ?_
                          refine y_l (x_runS (As := [.long (0 : Int64), .int (117 : Int32), .int (110 : Int32)]) C hW hS (T_X12_two l (0 : Int64) (117 : Int32) (110 : Int32) s44 _ h) (CS.of yv_X12_two ml_X12_276) ⟨rfl, rfl, ⟨by decide, by decide⟩, by decide, by decide⟩ rfl hl.1 rfl (by simp [rv_cat, cat_i, cat_l]) dX12_toldWord_258) hS (fun w47 s46 H locs h hW hS => ?_)
                          refine lv_bipush (v := (105 : Int32)) hx hb dX12_toldWord_261 (by decide) ?_
                          refine lv_bipush (v := (113 : Int32)) hx hb dX12_toldWord_263 (by decide) ?_
                          refine y_l (x_runS (As := [.long w47, .int (105 : Int32), .int (113 : Int32)]) C hW hS (T_X12_two l w47 (105 : Int32) (113 : Int32) s46 _ h) (CS.of yv_X12_two ml_X12_276) ⟨rfl, rfl, ⟨by decide, by decide⟩, by decide, by decide⟩ rfl hl.1 rfl (by simp [rv_cat, cat_i, cat_l]) dX12_toldWord_265) hS (fun w49 s48 H locs h hW hS => ?_)
                          refine lv_bipush (v := (117 : Int32)) hx hb dX12_toldWord_268 (by decide) ?_
                          refine lv_bipush (v := (101 : Int32)) hx hb dX12_toldWord_270 (by decide) ?_
                          refine y_l (x_runS (As := [.long w49, .int (117 : Int32), .int (101 : Int32)]) C hW hS (T_X12_two l w49 (117 : Int32) (101 : Int32) s48 _ h) (CS.of yv_X12_two ml_X12_276) ⟨rfl, rfl, ⟨by decide, by decide⟩, by decide, by decide⟩ rfl hl.1 rfl (by simp [rv_cat, cat_i, cat_l]) dX12_toldWord_272) hS (fun w51 s50 H locs h hW hS => ?_)
                          refine W.lcmp hx hb dX12_toldWord_275 ?_
                          refine lv_if_ne hx hb dX12_toldWord_276 (tgt := 282) rfl (fun hc => ?_) (fun hc => ?_)
                          · replace h := h.2 hc
                            refine x_lload_n C hl dX12_toldWord_282 rfl ?_
                            refine lv_lconst (v := (0 : Int64)) hx hb dX12_toldWord_283 (by decide) ?_
                            refine lv_bipush (v := (119 : Int32)) hx hb dX12_toldWord_284 (by decide) ?_
                            refine lv_bipush (v := (104 : Int32)) hx hb dX12_toldWord_286 (by decide) ?_
                            refine y_l (x_runS (As := [.long (0 : Int64), .int (119 : Int32), .int (104 : Int32)]) C hW hS (T_X12_two l (0 : Int64) (119 : Int32) (104 : Int32) s50 _ h) (CS.of yv_X12_two ml_X12_276) ⟨rfl, rfl, ⟨by decide, by decide⟩, by decide, by decide⟩ rfl hl.1 rfl (by simp [rv_cat, cat_i, cat_l]) dX12_toldWord_288) hS (fun w53 s52 H locs h hW hS => ?_)
                            refine lv_bipush (v := (111 : Int32)) hx hb dX12_toldWord_291 (by decide) ?_
                            refine lv_bipush (v := (108 : Int32)) hx hb dX12_toldWord_293 (by decide) ?_
                            refine y_l (x_runS (As := [.long w53, .int (111 : Int32), .int (108 : Int32)]) C hW hS (T_X12_two l w53 (111 : Int32) (108 : Int32) s52 _ h) (CS.of yv_X12_two ml_X12_276) ⟨rfl, rfl, ⟨by decide, by decide⟩, by decide, by decide⟩ rfl hl.1 rfl (by simp [rv_cat, cat_i, cat_l]) dX12_toldWord_295) hS (fun w55 s54 H locs h hW hS => ?_)
                            refine lv_bipush (v := (101 : Int32)) hx hb dX12_toldWord_298 (by decide) ?_
                            refine y_l (x_runS (As := [.long w55, .int (101 : Int32)]) C hW hS (T_X12_one l w55 (101 : Int32) s54 _ h) (CS.of yv_X12_one ml_X12_280) ⟨rfl, rfl, ⟨by decide, by decide⟩, by decide, by decide⟩ rfl hl.1 rfl (by simp [rv_cat, cat_i, cat_l]) dX12_toldWord_300) hS (fun w57 s56 H locs h hW hS => ?_)
                            refine W.lcmp hx hb dX12_toldWord_303 ?_
                            refine lv_if_ne hx hb dX12_toldWord_304 (tgt := 310) rfl (fun hc => ?_) (fun hc => ?_)
                            · replace h := h.2 hc
                              refine x_lload_n C hl dX12_toldWord_310 rfl ?_
                              refine lv_lconst (v := (0 : Int64)) hx hb dX12_toldWord_311 (by decide) ?_
                              refine lv_bipush (v := (115 : Int32)) hx hb dX12_toldWord_312 (by decide) ?_
                              refine lv_bipush (v := (109 : Int32)) hx hb dX12_toldWord_314 (by decide) ?_
                              refine y_l (x_runS (As := [.long (0 : Int64), .int (115 : Int32), .int (109 : Int32)]) C hW hS (T_X12_two l (0 : Int64) (115 : Int32) (109 : Int32) s56 _ h) (CS.of yv_X12_two ml_X12_276) ⟨rfl, rfl, ⟨by decide, by decide⟩, by decide, by decide⟩ rfl hl.1 rfl (by simp [rv_cat, cat_i, cat_l]) dX12_toldWord_316) hS (fun w59 s58 H locs h hW hS => ?_)
                              refine lv_bipush (v := (97 : Int32)) hx hb dX12_toldWord_319 (by decide) ?_
                              refine lv_bipush (v := (108 : Int32)) hx hb dX12_toldWord_321 (by decide) ?_
                              refine y_l (x_runS (As := [.long w59, .int (97 : Int32), .int (108 : Int32)]) C hW hS (T_X12_two l w59 (97 : Int32) (108 : Int32) s58 _ h) (CS.of yv_X12_two ml_X12_276) ⟨rfl, rfl, ⟨by decide, by decide⟩, by decide, by decide⟩ rfl hl.1 rfl (by simp [rv_cat, cat_i, cat_l]) dX12_toldWord_323) hS (fun w61 s60 H locs h hW hS => ?_)
                              refine lv_bipush (v := (108 : Int32)) hx hb dX12_toldWord_326 (by decide) ?_
                              refine y_l (x_runS (As := [.long w61, .int (108 : Int32)]) C hW hS (T_X12_one l w61 (108 : Int32) s60 _ h) (CS.of yv_X12_one ml_X12_280) ⟨rfl, rfl, ⟨by decide, by decide⟩, by decide, by decide⟩ rfl hl.1 rfl (by simp [rv_cat, cat_i, cat_l]) dX12_toldWord_328) hS (fun w63 s62 H locs h hW hS => ?_)
                              refine W.lcmp hx hb dX12_toldWord_331 ?_
                              refine lv_if_ne hx hb dX12_toldWord_332 (tgt := 338) rfl (fun hc => ?_) (fun hc => ?_)
                              · replace h := h.2 hc
                                refine x_lload_n C hl dX12_toldWord_338 rfl ?_
                                refine lv_lconst (v := (0 : Int64)) hx hb dX12_toldWord_339 (by decide) ?_
                                refine lv_bipush (v := (102 : Int32)) hx hb dX12_toldWord_340 (by decide) ?_
                                refine lv_bipush (v := (108 : Int32)) hx hb dX12_toldWord_342 (by decide) ?_
                                refine y_l (x_runS (As := [.long (0 : Int64), .int (102 : Int32), .int (108 : Int32)]) C hW hS (T_X12_two l (0 : Int64) (102 : Int32) (108 : Int32) s62 _ h) (CS.of yv_X12_two ml_X12_276) ⟨rfl, rfl, ⟨by decide, by decide⟩, by decide, by decide⟩ rfl hl.1 rfl (by simp [rv_cat, cat_i, cat_l]) dX12_toldWord_344) hS (fun w65 s64 H locs h hW hS => ?_)
                                refine lv_bipush (v := (97 : Int32)) hx hb dX12_toldWord_347 (by decide) ?_
                                refine lv_bipush (v := (103 : Int32)) hx hb dX12_toldWord_349 (by decide) ?_
                                refine y_l (x_runS (As := [.long w65, .int (97 : Int32), .int (103 : Int32)]) C hW hS (T_X12_two l w65 (97 : Int32) (103 : Int32) s64 _ h) (CS.of yv_X12_two ml_X12_276) ⟨rfl, rfl, ⟨by decide, by decide⟩, by decide, by decide⟩ rfl hl.1 rfl (by simp [rv_cat, cat_i, cat_l]) dX12_toldWord_351) hS (fun w67 s66 H locs h hW hS => ?_)
                                refine W.lcmp hx hb dX12_toldWord_354 ?_
                                refine lv_if_ne hx hb dX12_toldWord_355 (tgt := 361) rfl (fun hc => ?_) (fun hc => ?_)
                                · replace h := h.2 hc
                                  refine x_lload_n C hl dX12_toldWord_361 rfl ?_
                                  refine lv_lconst (v := (0 : Int64)) hx hb dX12_toldWord_362 (by decide) ?_
                                  refine lv_bipush (v := (104 : Int32)) hx hb dX12_toldWord_363 (by decide) ?_
                                  refine lv_bipush (v := (111 : Int32)) hx hb dX12_toldWord_365 (by decide) ?_
                                  refine y_l (x_runS (As := [.long (0 : Int64), .int (104 : Int32), .int (111 : Int32)]) C hW hS (T_X12_two l (0 : Int64) (104 : Int32) (111 : Int32) s66 _ h) (CS.of yv_X12_two ml_X12_276) ⟨rfl, rfl, ⟨by decide, by decide⟩, by decide, by decide⟩ rfl hl.1 rfl (by simp [rv_cat, cat_i, cat_l]) dX12_toldWord_367) hS (fun w69 s68 H locs h hW hS => ?_)
                                  refine lv_bipush (v := (111 : Int32)) hx hb dX12_toldWord_370 (by decide) ?_
                                  refine lv_bipush (v := (107 : Int32)) hx hb dX12_toldWord_372 (by decide) ?_
                                  refine y_l (x_runS (As := [.long w69, .int (111 : Int32), .int (107 : Int32)]) C hW hS (T_X12_two l w69 (111 : Int32) (107 : Int32) s68 _ h) (CS.of yv_X12_two ml_X12_276) ⟨rfl, rfl, ⟨by decide, by decide⟩, by decide, by decide⟩ rfl hl.1 rfl (by simp [rv_cat, cat_i, cat_l]) dX12_toldWord_374) hS (fun w71 s70 H locs h hW hS => ?_)
                                  refine W.lcmp hx hb dX12_toldWord_377 ?_
                                  refine lv_if_ne hx hb dX12_toldWord_378 (tgt := 384) rfl (fun hc => ?_) (fun hc => ?_)
                                  · replace h := h.2 hc
                                    refine x_lload_n C hl dX12_toldWord_384 rfl ?_
                                    refine lv_lconst (v := (0 : Int64)) hx hb dX12_toldWord_385 (by decide) ?_
                                    refine lv_bipush (v := (105 : Int32)) hx hb dX12_toldWord_386 (by decide) ?_
                                    refine lv_bipush (v := (110 : Int32)) hx hb dX12_toldWord_388 (by decide) ?_
                                    refine y_l (x_runS (As := [.long (0 : Int64), .int (105 : Int32), .int (110 : Int32)]) C hW hS (T_X12_two l (0 : Int64) (105 : Int32) (110 : Int32) s70 _ h) (CS.of yv_X12_two ml_X12_276) ⟨rfl, rfl, ⟨by decide, by decide⟩, by decide, by decide⟩ rfl hl.1 rfl (by simp [rv_cat, cat_i, cat_l]) dX12_toldWord_390) hS (fun w73 s72 H locs h hW hS => ?_)
                                    refine lv_bipush (v := (115 : Int32)) hx hb dX12_toldWord_393 (by decide) ?_
                                    refine lv_bipush (v := (101 : Int32)) hx hb dX12_toldWord_395 (by decide) ?_
                                    refine y_l (x_runS (As := [.long w73, .int (115 : Int32), .int (101 : Int32)]) C hW hS (T_X12_two l w73 (115 : Int32) (101 : Int32) s72 _ h) (CS.of yv_X12_two ml_X12_276) ⟨rfl, rfl, ⟨by decide, by decide⟩, by decide, by decide⟩ rfl hl.1 rfl (by simp [rv_cat, cat_i, cat_l]) dX12_toldWord_397) hS (fun w75 s74 H locs h hW hS => ?_)
                                    refine lv_bipush (v := (114 : Int32)) hx hb dX12_toldWord_400 (by decide) ?_
                                    refine lv_bipush (v := (116 : Int32)) hx hb dX12_toldWord_402 (by decide) ?_
                                    refine y_l (x_runS (As := [.long w75, .int (114 : Int32), .int (116 : Int32)]) C hW hS (T_X12_two l w75 (114 : Int32) (116 : Int32) s74 _ h) (CS.of yv_X12_two ml_X12_276) ⟨rfl, rfl, ⟨by decide, by decide⟩, by decide, by decide⟩ rfl hl.1 rfl (by simp [rv_cat, cat_i, cat_l]) dX12_toldWord_404) hS (fun w77 s76 H locs h hW hS => ?_)
                                    refine W.lcmp hx hb dX12_toldWord_407 ?_
                                    refine lv_if_ne hx hb dX12_toldWord_408 (tgt := 414) rfl (fun hc => ?_) (fun hc => ?_)
                                    · replace h := h.2 hc
                                      refine x_lload_n C hl dX12_toldWord_414 rfl ?_
                                      refine lv_lconst (v := (0 : Int64)) hx hb dX12_toldWord_415 (by decide) ?_
                                      refine lv_bipush (v := (99 : Int32)) hx hb dX12_toldWord_416 (by decide) ?_
                                      refine lv_bipush (v := (104 : Int32)) hx hb dX12_toldWord_418 (by decide) ?_
                                      refine y_l (x_runS (As := [.long (0 : Int64), .int (99 : Int32), .int (104 : Int32)]) C hW hS (T_X12_two l (0 : Int64) (99 : Int32) (104 : Int32) s76 _ h) (CS.of yv_X12_two ml_X12_276) ⟨rfl, rfl, ⟨by decide, by decide⟩, by decide, by decide⟩ rfl hl.1 rfl (by simp [rv_cat, cat_i, cat_l]) dX12_toldWord_420) hS (fun w79 s78 H locs h hW hS => ?_)
                                      refine lv_bipush (v := (97 : Int32)) hx hb dX12_toldWord_423 (by decide) ?_
                                      refine lv_bipush (v := (110 : Int32)) hx hb dX12_toldWord_425 (by decide) ?_
                                      refine y_l (x_runS (As := [.long w79, .int (97 : Int32), .int (110 : Int32)]) C hW hS (T_X12_two l w79 (97 : Int32) (110 : Int32) s78 _ h) (CS.of yv_X12_two ml_X12_276) ⟨rfl, rfl, ⟨by decide, by decide⟩, by decide, by decide⟩ rfl hl.1 rfl (by simp [rv_cat, cat_i, cat_l]) dX12_toldWord_427) hS (fun w81 s80 H locs h hW hS => ?_)
                                      refine lv_bipush (v := (103 : Int32)) hx hb dX12_toldWord_430 (by decide) ?_
                                      refine lv_bipush (v := (101 : Int32)) hx hb dX12_toldWord_432 (by decide) ?_
                                      refine y_l (x_runS (As := [.long w81, .int (103 : Int32), .int (101 : Int32)]) C hW hS (T_X12_two l w81 (103 : Int32) (101 : Int32) s80 _ h) (CS.of yv_X12_two ml_X12_276) ⟨rfl, rfl, ⟨by decide, by decide⟩, by decide, by decide⟩ rfl hl.1 rfl (by simp [rv_cat, cat_i, cat_l]) dX12_toldWord_434) hS (fun w83 s82 H locs h hW hS => ?_)
                                      refine W.lcmp hx hb dX12_toldWord_437 ?_
                                      refine lv_if_ne hx hb dX12_toldWord_438 (tgt := 444) rfl (fun hc => ?_) (fun hc => ?_)
                                      · replace h := h.2 hc
                                        refine x_lload_n C hl dX12_toldWord_444 rfl ?_
                                        refine lv_lconst (v := (0 : Int64)) hx hb dX12_toldWord_445 (by decide) ?_
                                        refine lv_bipush (v := (119 : Int32)) hx hb dX12_toldWord_446 (by decide) ?_
                                        refine lv_bipush (v := (104 : Int32)) hx hb dX12_toldWord_448 (by decide) ?_
                                        refine y_l (x_runS (As := [.long (0 : Int64), .int (119 : Int32), .int (104 : Int32)]) C hW hS (T_X12_two l (0 : Int64) (119 : Int32) (104 : Int32) s82 _ h) (CS.of yv_X12_two ml_X12_276) ⟨rfl, rfl, ⟨by decide, by decide⟩, by decide, by decide⟩ rfl hl.1 rfl (by simp [rv_cat, cat_i, cat_l]) dX12_toldWord_450) hS (fun w85 s84 H locs h hW hS => ?_)
                                        refine lv_bipush (v := (101 : Int32)) hx hb dX12_toldWord_453 (by decide) ?_
                                        refine lv_bipush (v := (114 : Int32)) hx hb dX12_toldWord_455 (by decide) ?_
                                        refine y_l (x_runS (As := [.long w85, .int (101 : Int32), .int (114 : Int32)]) C hW hS (T_X12_two l w85 (101 : Int32) (114 : Int32) s84 _ h) (CS.of yv_X12_two ml_X12_276) ⟨rfl, rfl, ⟨by decide, by decide⟩, by decide, by decide⟩ rfl hl.1 rfl (by simp [rv_cat, cat_i, cat_l]) dX12_toldWord_457) hS (fun w87 s86 H locs h hW hS => ?_)
                                        refine lv_bipush (v := (101 : Int32)) hx hb dX12_toldWord_460 (by decide) ?_
                                        refine y_l (x_runS (As := [.long w87, .int (101 : Int32)]) C hW hS (T_X12_one l w87 (101 : Int32) s86 _ h) (CS.of yv_X12_one ml_X12_280) ⟨rfl, rfl, ⟨by decide, by decide⟩, by decide, by decide⟩ rfl hl.1 rfl (by simp [rv_cat, cat_i, cat_l]) dX12_toldWord_462) hS (fun w89 s88 H locs h hW hS => ?_)
                                        refine W.lcmp hx hb dX12_toldWord_465 ?_
                                        refine lv_if_ne hx hb dX12_toldWord_466 (tgt := 472) rfl (fun hc => ?_) (fun hc => ?_)
                                        · replace h := h.2 hc
                                          refine x_lload_n C hl dX12_toldWord_472 rfl ?_
                                          refine lv_lconst (v := (0 : Int64)) hx hb dX12_toldWord_473 (by decide) ?_
                                          refine lv_bipush (v := (111 : Int32)) hx hb dX12_toldWord_474 (by decide) ?_
                                          refine lv_bipush (v := (114 : Int32)) hx hb dX12_toldWord_476 (by decide) ?_
                                          refine y_l (x_runS (As := [.long (0 : Int64), .int (111 : Int32), .int (114 : Int32)]) C hW hS (T_X12_two l (0 : Int64) (111 : Int32) (114 : Int32) s88 _ h) (CS.of yv_X12_two ml_X12_276) ⟨rfl, rfl, ⟨by decide, by decide⟩, by decide, by decide⟩ rfl hl.1 rfl (by simp [rv_cat, cat_i, cat_l]) dX12_toldWord_478) hS (fun w91 s90 H locs h hW hS => ?_)
                                          refine W.lcmp hx hb dX12_toldWord_481 ?_
                                          refine lv_if_ne hx hb dX12_toldWord_482 (tgt := 488) rfl (fun hc => ?_) (fun hc => ?_)
                                          · replace h := h.2 hc
                                            refine x_lload_n C hl dX12_toldWord_488 rfl ?_
                                            refine lv_lconst (v := (0 : Int64)) hx hb dX12_toldWord_489 (by decide) ?_
                                            refine lv_bipush (v := (97 : Int32)) hx hb dX12_toldWord_490 (by decide) ?_
                                            refine lv_bipush (v := (110 : Int32)) hx hb dX12_toldWord_492 (by decide) ?_
                                            refine y_l (x_runS (As := [.long (0 : Int64), .int (97 : Int32), .int (110 : Int32)]) C hW hS (T_X12_two l (0 : Int64) (97 : Int32) (110 : Int32) s90 _ h) (CS.of yv_X12_two ml_X12_276) ⟨rfl, rfl, ⟨by decide, by decide⟩, by decide, by decide⟩ rfl hl.1 rfl (by simp [rv_cat, cat_i, cat_l]) dX12_toldWord_494) hS (fun w93 s92 H locs h hW hS => ?_)
                                            refine lv_bipush (v := (100 : Int32)) hx hb dX12_toldWord_497 (by decide) ?_
                                            refine y_l (x_runS (As := [.long w93, .int (100 : Int32)]) C hW hS (T_X12_one l w93 (100 : Int32) s92 _ h) (CS.of yv_X12_one ml_X12_280) ⟨rfl, rfl, ⟨by decide, by decide⟩, by decide, by decide⟩ rfl hl.1 rfl (by simp [rv_cat, cat_i, cat_l]) dX12_toldWord_499) hS (fun w95 s94 H locs h hW hS => ?_)
                                            refine W.lcmp hx hb dX12_toldWord_502 ?_
                                            refine lv_if_ne hx hb dX12_toldWord_503 (tgt := 509) rfl (fun hc => ?_) (fun hc => ?_)
                                            · replace h := h.2 hc
                                              refine x_lload_n C hl dX12_toldWord_509 rfl ?_
                                              refine lv_lconst (v := (0 : Int64)) hx hb dX12_toldWord_510 (by decide) ?_
                                              refine lv_bipush (v := (110 : Int32)) hx hb dX12_toldWord_511 (by decide) ?_
                                              refine lv_bipush (v := (111 : Int32)) hx hb dX12_toldWord_513 (by decide) ?_
                                              refine y_l (x_runS (As := [.long (0 : Int64), .int (110 : Int32), .int (111 : Int32)]) C hW hS (T_X12_two l (0 : Int64) (110 : Int32) (111 : Int32) s94 _ h) (CS.of yv_X12_two ml_X12_276) ⟨rfl, rfl, ⟨by decide, by decide⟩, by decide, by decide⟩ rfl hl.1 rfl (by simp [rv_cat, cat_i, cat_l]) dX12_toldWord_515) hS (fun w97 s96 H locs h hW hS => ?_)
                                              refine lv_bipush (v := (116 : Int32)) hx hb dX12_toldWord_518 (by decide) ?_
                                              refine y_l (x_runS (As := [.long w97, .int (116 : Int32)]) C hW hS (T_X12_one l w97 (116 : Int32) s96 _ h) (CS.of yv_X12_one ml_X12_280) ⟨rfl, rfl, ⟨by decide, by decide⟩, by decide, by decide⟩ rfl hl.1 rfl (by simp [rv_cat, cat_i, cat_l]) dX12_toldWord_520) hS (fun w99 s98 H locs h hW hS => ?_)
                                              refine W.lcmp hx hb dX12_toldWord_523 ?_
                                              refine lv_if_ne hx hb dX12_toldWord_524 (tgt := 530) rfl (fun hc => ?_) (fun hc => ?_)
                                              · replace h := h.2 hc
                                                refine x_lload_n C hl dX12_toldWord_530 rfl ?_
                                                refine lv_lconst (v := (0 : Int64)) hx hb dX12_toldWord_531 (by decide) ?_
                                                refine lv_bipush (v := (101 : Int32)) hx hb dX12_toldWord_532 (by decide) ?_
                                                refine lv_bipush (v := (109 : Int32)) hx hb dX12_toldWord_534 (by decide) ?_
                                                refine y_l (x_runS (As := [.long (0 : Int64), .int (101 : Int32), .int (109 : Int32)]) C hW hS (T_X12_two l (0 : Int64) (101 : Int32) (109 : Int32) s98 _ h) (CS.of yv_X12_two ml_X12_276) ⟨rfl, rfl, ⟨by decide, by decide⟩, by decide, by decide⟩ rfl hl.1 rfl (by simp [rv_cat, cat_i, cat_l]) dX12_toldWord_536) hS (fun w101 s100 H locs h hW hS => ?_)
                                                refine lv_bipush (v := (112 : Int32)) hx hb dX12_toldWord_539 (by decide) ?_
                                                refine lv_bipush (v := (116 : Int32)) hx hb dX12_toldWord_541 (by decide) ?_
                                                refine y_l (x_runS (As := [.long w101, .int (112 : Int32), .int (116 : Int32)]) C hW hS (T_X12_two l w101 (112 : Int32) (116 : Int32) s100 _ h) (CS.of yv_X12_two ml_X12_276) ⟨rfl, rfl, ⟨by decide, by decide⟩, by decide, by decide⟩ rfl hl.1 rfl (by simp [rv_cat, cat_i, cat_l]) dX12_toldWord_543) hS (fun w103 s102 H locs h hW hS => ?_)
                                                refine lv_bipush (v := (121 : Int32)) hx hb dX12_toldWord_546 (by decide) ?_
                                                refine y_l (x_runS (As := [.long w103, .int (121 : Int32)]) C hW hS (T_X12_one l w103 (121 : Int32) s102 _ h) (CS.of yv_X12_one ml_X12_280) ⟨rfl, rfl, ⟨by decide, by decide⟩, by decide, by decide⟩ rfl hl.1 rfl (by simp [rv_cat, cat_i, cat_l]) dX12_toldWord_548) hS (fun w105 s104 H locs h hW hS => ?_)
                                                refine W.lcmp hx hb dX12_toldWord_551 ?_
                                                refine lv_if_ne hx hb dX12_toldWord_552 (tgt := 558) rfl (fun hc => ?_) (fun hc => ?_)
                                                · replace h := h.2 hc
                                                  refine lv_iconst (v := (-1 : Int32)) hx hb dX12_toldWord_558 (by decide) ?_
                                                  exact r_i C hr hW hS h dX12_toldWord_559
                                                · replace h := h.1 hc
                                                  refine lv_bipush (v := (22 : Int32)) hx hb dX12_toldWord_555 (by decide) ?_
                                                  exact r_i C hr hW hS h dX12_toldWord_557
                                              · replace h := h.1 hc
                                                refine lv_bipush (v := (21 : Int32)) hx hb dX12_toldWord_527 (by decide) ?_
                                                exact r_i C hr hW hS h dX12_toldWord_529
                                            · replace h := h.1 hc
                                              refine lv_bipush (v := (20 : Int32)) hx hb dX12_toldWord_506 (by decide) ?_
                                              exact r_i C hr hW hS h dX12_toldWord_508
                                          · replace h := h.1 hc
                                            refine lv_bipush (v := (19 : Int32)) hx hb dX12_toldWord_485 (by decide) ?_
                                            exact r_i C hr hW hS h dX12_toldWord_487
                                        · replace h := h.1 hc
                                          refine lv_bipush (v := (18 : Int32)) hx hb dX12_toldWord_469 (by decide) ?_
                                          exact r_i C hr hW hS h dX12_toldWord_471
                                      · replace h := h.1 hc
                                        refine lv_bipush (v := (17 : Int32)) hx hb dX12_toldWord_441 (by decide) ?_
                                        exact r_i C hr hW hS h dX12_toldWord_443
                                    · replace h := h.1 hc
                                      refine lv_bipush (v := (16 : Int32)) hx hb dX12_toldWord_411 (by decide) ?_
                                      exact r_i C hr hW hS h dX12_toldWord_413
                                  · replace h := h.1 hc
                                    refine lv_bipush (v := (15 : Int32)) hx hb dX12_toldWord_381 (by decide) ?_
                                    exact r_i C hr hW hS h dX12_toldWord_383
                                · replace h := h.1 hc
                                  refine lv_bipush (v := (14 : Int32)) hx hb dX12_toldWord_358 (by decide) ?_
                                  exact r_i C hr hW hS h dX12_toldWord_360
                              · replace h := h.1 hc
                                refine lv_bipush (v := (13 : Int32)) hx hb dX12_toldWord_335 (by decide) ?_
                                exact r_i C hr hW hS h dX12_toldWord_337
                            · replace h := h.1 hc
                              refine lv_bipush (v := (12 : Int32)) hx hb dX12_toldWord_307 (by decide) ?_
                              exact r_i C hr hW hS h dX12_toldWord_309
                          · replace h := h.1 hc
                            refine lv_bipush (v := (11 : Int32)) hx hb dX12_toldWord_279 (by decide) ?_
                            exact r_i C hr hW hS h dX12_toldWord_281
                        · replace h := h.1 hc
                          refine lv_bipush (v := (10 : Int32)) hx hb dX12_toldWord_249 (by decide) ?_
                          exact r_i C hr hW hS h dX12_toldWord_251
                      · replace h := h.1 hc
                        refine lv_bipush (v := (9 : Int32)) hx hb dX12_toldWord_221 (by decide) ?_
                        exact r_i C hr hW hS h dX12_toldWord_223
                    · replace h := h.1 hc
                      refine lv_bipush (v := (8 : Int32)) hx hb dX12_toldWord_198 (by decide) ?_
                      exact r_i C hr hW hS h dX12_toldWord_200
                  · replace h := h.1 hc
                    refine lv_bipush (v := (7 : Int32)) hx hb dX12_toldWord_182 (by decide) ?_
                    exact r_i C hr hW hS h dX12_toldWord_184
                · replace h := h.1 hc
                  refine lv_bipush (v := (6 : Int32)) hx hb dX12_toldWord_159 (by decide) ?_
                  exact r_i C hr hW hS h dX12_toldWord_161
              · replace h := h.1 hc
                refine lv_iconst (v := (5 : Int32)) hx hb dX12_toldWord_144 (by decide) ?_
                exact r_i C hr hW hS h dX12_toldWord_145
            · replace h := h.1 hc
              refine lv_iconst (v := (4 : Int32)) hx hb dX12_toldWord_124 (by decide) ?_
              exact r_i C hr hW hS h dX12_toldWord_125
          · replace h := h.1 hc
            refine lv_iconst (v := (3 : Int32)) hx hb dX12_toldWord_95 (by decide) ?_
            exact r_i C hr hW hS h dX12_toldWord_96
        · replace h := h.1 hc
          refine lv_iconst (v := (2 : Int32)) hx hb dX12_toldWord_75 (by decide) ?_
          exact r_i C hr hW hS h dX12_toldWord_76
      · replace h := h.1 hc
        refine lv_iconst (v := (1 : Int32)) hx hb dX12_toldWord_55 (by decide) ?_
        exact r_i C hr hW hS h dX12_toldWord_56
    · replace h := h.1 hc
      refine lv_iconst (v := (0 : Int32)) hx hb dX12_toldWord_40 (by decide) ?_
      exact r_i C hr hW hS h dX12_toldWord_41
  · replace h := h.2 hc
    refine lv_iconst (v := (-1 : Int32)) hx hb dX12_toldWord_8 (by decide) ?_
    exact r_i C hr hW hS h dX12_toldWord_9
theorem T_X12_toldWord (l : Launch) {G : Lay} {D : va_G} {tc : Nat → ClassId} {b0 : Nat} (l0 : Nat) (σ : Mem) (Qx : Int32 → Mem → Prop) (h : X_X12_toldWord G Qx l0 σ) : MI l yX12_toldWord cX12_toldWord 3 ((some FieldType.int)) rm_X12_toldWord G D tc b0 [rv b0 l0] σ Qx :=
  x_entry (y := yX12_toldWord) [.inr (.inr l0)] 2 (by decide) (Nat.le_of_ble_eq_true rfl) (fun p e s m args below meth c ls C hr hW hl => t_X12_toldWord_0 C hr va_S.rf hW (hl.keep [true, false, false] rfl) h)
/-! X12_isName -/
set_option maxRecDepth 20000 in
set_option maxHeartbeats 4000000 in
theorem t_X12_isName_20 {p : Program} {l : Launch} {e : Env} {s : State} {m : MethodId} {args : Array Value} {below : List Frame} {meth : Method} {c : Code} {H : Heap} {locs : List Loc} {D : va_G} {tc : Nat → ClassId} {b0 : Nat} {ls : Array Slot} {G : Lay} {Qx : Int32 → Mem → Prop}  {k0 : Int32} {σ : Mem} (C : Cx p s m args meth c cX12_isName RX12 1 D tc b0) (hr : meth.sig.returnType = (some FieldType.boolean)) (hS : va_S (AA b0) s.heap H locs) (hW : Wd G D tc b0 σ H) (hl : hL b0 ls 1 [none]) (h : X_X12_isName_20 G Qx  k0 σ) : W p l e rm_X12_isName s m args below meth c H locs 0 0 (MQ below (va_Qi Qx (fun u t => Pw G D tc b0 u t) (AA b0)) args s 0 0 (AA b0)) (F0 m 20 ls [.int k0]) := by
  have hx := C.1
  have hb := C.2.1
  unfold X_X12_isName_20 at h
  exact r_z C hr hW hS h.1 h.2 dX12_isName_20
set_option maxRecDepth 20000 in
set_option maxHeartbeats 4000000 in
theorem t_X12_isName_19 {p : Program} {l : Launch} {e : Env} {s : State} {m : MethodId} {args : Array Value} {below : List Frame} {meth : Method} {c : Code} {H : Heap} {locs : List Loc} {D : va_G} {tc : Nat → ClassId} {b0 : Nat} {ls : Array Slot} {G : Lay} {Qx : Int32 → Mem → Prop}   {σ : Mem} (C : Cx p s m args meth c cX12_isName RX12 1 D tc b0) (hr : meth.sig.returnType = (some FieldType.boolean)) (hS : va_S (AA b0) s.heap H locs) (hW : Wd G D tc b0 σ H) (hl : hL b0 ls 1 [none]) (h : X_X12_isName_19 G Qx   σ) : W p l e rm_X12_isName s m args below meth c H locs 0 0 (MQ below (va_Qi Qx (fun u t => Pw G D tc b0 u t) (AA b0)) args s 0 0 (AA b0)) (F0 m 19 ls []) := by
  have hx := C.1
  have hb := C.2.1
  unfold X_X12_isName_19 at h
  refine lv_iconst (v := (0 : Int32)) hx hb dX12_isName_19 (by decide) ?_
  exact t_X12_isName_20 C hr hS hW (hl.keep [false] rfl) h
set_option maxRecDepth 20000 in
set_option maxHeartbeats 4000000 in
theorem t_X12_isName_0 {p : Program} {l : Launch} {e : Env} {s : State} {m : MethodId} {args : Array Value} {below : List Frame} {meth : Method} {c : Code} {H : Heap} {locs : List Loc} {D : va_G} {tc : Nat → ClassId} {b0 : Nat} {ls : Array Slot} {G : Lay} {Qx : Int32 → Mem → Prop} {l0 : Nat}  {σ : Mem} (C : Cx p s m args meth c cX12_isName RX12 1 D tc b0) (hr : meth.sig.returnType = (some FieldType.boolean)) (hS : va_S (AA b0) s.heap H locs) (hW : Wd G D tc b0 σ H) (hl : hL b0 ls 1 [some (.inr (.inr l0))]) (h : X_X12_isName_0 G Qx l0  σ) : W p l e rm_X12_isName s m args below meth c H locs 0 0 (MQ below (va_Qi Qx (fun u t => Pw G D tc b0 u t) (AA b0)) args s 0 0 (AA b0)) (F0 m 0 ls []) := by
  have hx := C.1
  have hb := C.2.1
  unfold X_X12_isName_0 at h
  refine x_aload_n C hl dX12_isName_0 rfl ?_
  have t1 := h.1
  replace h := h.2
  refine x_get C hW (t := 12) (k := 51) t1 kl_12 (by decide) fl_X12_243 (v := .int (mI σ l0 51)) rfl dX12_isName_1 ?_
  refine lv_iconst (v := (2 : Int32)) hx hb dX12_isName_4 (by decide) ?_
  refine lv_icmp_ne hx hb dX12_isName_5 (tgt := 19) rfl (fun hc => ?_) (fun hc => ?_)
  · replace h := h.2 hc
    exact t_X12_isName_19 C hr hS hW (hl.keep [false] rfl) h
  · replace h := h.1 hc
    refine x_aload_n C hl dX12_isName_8 rfl ?_
    refine y_i (x_run (As := []) C hW hS (T_X12_toldWord l l0 σ _ h) t1 kl_12 (CW.of yv_X12_toldWord ml_X12_284) ⟨rfl, rfl, ⟨by decide, by decide⟩, by decide, by decide⟩ rfl hl.1 rfl (by decide) dX12_isName_9) hS (fun w3 s2 H locs h hW hS => ?_)
    refine lv_if_ge hx hb dX12_isName_12 (tgt := 19) rfl (fun hc => ?_) (fun hc => ?_)
    · replace h := h.1 hc
      exact t_X12_isName_19 C hr hS hW (hl.keep [false] rfl) h
    · replace h := h.2 hc
      refine lv_iconst (v := (1 : Int32)) hx hb dX12_isName_15 (by decide) ?_
      refine lv_goto hx hb dX12_isName_16 (tgt := 20) rfl ?_
      exact t_X12_isName_20 C hr hS hW (hl.keep [false] rfl) h
theorem T_X12_isName (l : Launch) {G : Lay} {D : va_G} {tc : Nat → ClassId} {b0 : Nat} (l0 : Nat) (σ : Mem) (Qx : Int32 → Mem → Prop) (h : X_X12_isName G Qx l0 σ) : MI l yX12_isName cX12_isName 1 ((some FieldType.boolean)) rm_X12_isName G D tc b0 [rv b0 l0] σ Qx :=
  x_entry (y := yX12_isName) [.inr (.inr l0)] 0 (by decide) (Nat.le_of_ble_eq_true rfl) (fun p e s m args below meth c ls C hr hW hl => t_X12_isName_0 C hr va_S.rf hW (hl.keep [true] rfl) h)
/-! X12_needsWord -/
set_option maxRecDepth 20000 in
set_option maxHeartbeats 4000000 in
theorem t_X12_needsWord_0 {p : Program} {l : Launch} {e : Env} {s : State} {m : MethodId} {args : Array Value} {below : List Frame} {meth : Method} {c : Code} {H : Heap} {locs : List Loc} {D : va_G} {tc : Nat → ClassId} {b0 : Nat} {ls : Array Slot} {G : Lay} {Qx : Int32 → Mem → Prop} {l0 : Nat} {l1 : Int32}  {σ : Mem} (C : Cx p s m args meth c cX12_needsWord RX12 2 D tc b0) (hr : meth.sig.returnType = (some FieldType.boolean)) (hS : va_S (AA b0) s.heap H locs) (hW : Wd G D tc b0 σ H) (hl : hL b0 ls 2 [some (.inr (.inr l0)), some (.inl l1)]) (h : X_X12_needsWord_0 G Qx l0 l1  σ) : W p l e rm_X12_needsWord s m args below meth c H locs 0 0 (MQ below (va_Qi Qx (fun u t => Pw G D tc b0 u t) (AA b0)) args s 0 0 (AA b0)) (F0 m 0 ls []) := by
  have hx := C.1
  have hb := C.2.1
  unfold X_X12_needsWord_0 at h
  refine x_aload_n C hl dX12_needsWord_0 rfl ?_
  have t1 := h.1
  replace h := h.2
  refine y_i (x_run (As := []) C hW hS (T_X12_toldWord l l0 σ _ h) t1 kl_12 (CW.of yv_X12_toldWord ml_X12_284) ⟨rfl, rfl, ⟨by decide, by decide⟩, by decide, by decide⟩ rfl hl.1 rfl (by decide) dX12_needsWord_1) hS (fun w3 s2 H locs h hW hS => ?_)
  refine x_iload_n C hl dX12_needsWord_4 rfl ?_
  refine lv_icmp_eq hx hb dX12_needsWord_5 (tgt := 13) rfl (fun hc => ?_) (fun hc => ?_)
  · replace h := h.1 hc
    refine x_aload_n C hl dX12_needsWord_13 rfl ?_
    refine y_v (x_run (As := []) C hW hS (T_X12_advance l l0 s2 _ h) t1 kl_12 (CW.of yv_X12_advance ml_X12_271) ⟨rfl, rfl, ⟨by decide, by decide⟩, by decide, by decide⟩ rfl hl.1 rfl (by decide) dX12_needsWord_14) hS (fun s4 H locs h hW hS => ?_)
    refine lv_iconst (v := (1 : Int32)) hx hb dX12_needsWord_17 (by decide) ?_
    exact r_z C hr hW hS h.1 h.2 dX12_needsWord_18
  · replace h := h.2 hc
    refine x_aload_n C hl dX12_needsWord_8 rfl ?_
    refine y_i (x_run (As := []) C hW hS (T_X12_wrong l l0 s2 _ h) t1 kl_12 (CW.of yv_X12_wrong ml_X12_267) ⟨rfl, rfl, ⟨by decide, by decide⟩, by decide, by decide⟩ rfl hl.1 rfl (by decide) dX12_needsWord_9) hS (fun w6 s5 H locs h hW hS => ?_)
    exact r_z C hr hW hS h.1 h.2 dX12_needsWord_12
theorem T_X12_needsWord (l : Launch) {G : Lay} {D : va_G} {tc : Nat → ClassId} {b0 : Nat} (l0 : Nat) (l1 : Int32) (σ : Mem) (Qx : Int32 → Mem → Prop) (h : X_X12_needsWord G Qx l0 l1 σ) : MI l yX12_needsWord cX12_needsWord 2 ((some FieldType.boolean)) rm_X12_needsWord G D tc b0 [rv b0 l0, .int l1] σ Qx :=
  x_entry (y := yX12_needsWord) [.inr (.inr l0), .inl l1] 0 (by decide) (Nat.le_of_ble_eq_true rfl) (fun p e s m args below meth c ls C hr hW hl => t_X12_needsWord_0 C hr va_S.rf hW (hl.keep [true, true] rfl) h)
/-! X12_classNamed -/
set_option maxRecDepth 20000 in
set_option maxHeartbeats 4000000 in
theorem t_X12_classNamed_3_n {p : Program} {l : Launch} {e : Env} {s : State} {m : MethodId} {args : Array Value} {below : List Frame} {meth : Method} {c : Code} {D : va_G} {tc : Nat → ClassId} {b0 : Nat} {G : Lay} {Qx : Int32 → Mem → Prop} {l0 : Nat} {l1 : Int32} {l2 : Int32} {l3 : Int64} (C : Cx p s m args meth c cX12_classNamed RX12 6 D tc b0) (hr : meth.sig.returnType = (some FieldType.int)) (n : Nat) : ∀ (l5 : Int32) (σ : Mem) (H : Heap) (locs : List Loc) (ls : Array Slot), va_S (AA b0) s.heap H locs → Wd G D tc b0 σ H → hL b0 ls 6 [some (.inr (.inr l0)), some (.inl l1), some (.inl l2), some (.inr (.inl l3)), none, some (.inl l5)] → Lp (X_X12_classNamed_3_s G Qx l0 l1 l2 l3) n (l5, σ) → W p l e rm_X12_classNamed s m args below meth c H locs 0 0 (MQ below (va_Qi Qx (fun u t => Pw G D tc b0 u t) (AA b0)) args s 0 0 (AA b0)) (F0 m 3 ls []) := by
  have hx := C.1
  have hb := C.2.1
  induction n with
  | zero => intro l5 σ H locs ls hS hW hl h; exact False.elim h
  | succ n hK3 =>
    intro l5 σ H locs ls hS hW hl h
    replace h : X_X12_classNamed_3_s G Qx l0 l1 l2 l3 (Lp (X_X12_classNamed_3_s G Qx l0 l1 l2 l3) n) (l5, σ) := h
    unfold X_X12_classNamed_3_s at h
    refine x_iload C hl dX12_classNamed_3 rfl ?_
    refine x_iload_n C hl dX12_classNamed_5 rfl ?_
    refine lv_icmp_ge hx hb dX12_classNamed_6 (tgt := 32) rfl (fun hc => ?_) (fun hc => ?_)
    · replace h := h.1 hc
      refine lv_iconst (v := (-1 : Int32)) hx hb dX12_classNamed_32 (by decide) ?_
      exact r_i C hr hW hS h dX12_classNamed_33
    · replace h := h.2 hc
      refine x_aload_n C hl dX12_classNamed_9 rfl ?_
      have t1 := h.1
      replace h := h.2
      refine x_get C hW (t := 12) (k := 3) t1 kl_12 (by decide) fl_X12_13 (v := rv b0 (mR σ l0 3)) rfl dX12_classNamed_10 ?_
      refine x_iload_n C hl dX12_classNamed_13 rfl ?_
      refine x_iload C hl dX12_classNamed_14 rfl ?_
      refine lv_iadd hx hb dX12_classNamed_16 ?_
      have t2 := h.1
      replace h := h.2
      have v3 := h.1
      replace h := h.2
      refine x_lald C hW t2 v3 dX12_classNamed_17 ?_
      refine x_lload_n C hl dX12_classNamed_18 rfl ?_
      refine W.lcmp hx hb dX12_classNamed_19 ?_
      refine lv_if_ne hx hb dX12_classNamed_20 (tgt := 26) rfl (fun hc => ?_) (fun hc => ?_)
      · replace h := h.2 hc
        refine x_iinc C hl dX12_classNamed_26 rfl (v := (1 : Int32)) (by decide) (by decide) rfl (fun ls hl => ?_)
        refine lv_goto hx hb dX12_classNamed_29 (tgt := 3) rfl ?_
        exact hK3 _ _ _ _ _ hS hW (hl.keep [true, true, true, true, false, true] rfl) h
      · replace h := h.1 hc
        refine x_iload C hl dX12_classNamed_23 rfl ?_
        exact r_i C hr hW hS h dX12_classNamed_25
set_option maxRecDepth 20000 in
set_option maxHeartbeats 4000000 in
theorem t_X12_classNamed_3 {p : Program} {l : Launch} {e : Env} {s : State} {m : MethodId} {args : Array Value} {below : List Frame} {meth : Method} {c : Code} {H : Heap} {locs : List Loc} {D : va_G} {tc : Nat → ClassId} {b0 : Nat} {ls : Array Slot} {G : Lay} {Qx : Int32 → Mem → Prop} {l0 : Nat} {l1 : Int32} {l2 : Int32} {l3 : Int64} {l5 : Int32}  {σ : Mem} (C : Cx p s m args meth c cX12_classNamed RX12 6 D tc b0) (hr : meth.sig.returnType = (some FieldType.int)) (hS : va_S (AA b0) s.heap H locs) (hW : Wd G D tc b0 σ H) (hl : hL b0 ls 6 [some (.inr (.inr l0)), some (.inl l1), some (.inl l2), some (.inr (.inl l3)), none, some (.inl l5)]) (h : X_X12_classNamed_3 G Qx l0 l1 l2 l3 l5 σ) : W p l e rm_X12_classNamed s m args below meth c H locs 0 0 (MQ below (va_Qi Qx (fun u t => Pw G D tc b0 u t) (AA b0)) args s 0 0 (AA b0)) (F0 m 3 ls []) := by
  obtain ⟨n, h⟩ := h
  exact t_X12_classNamed_3_n C hr n l5 σ H locs ls hS hW hl h
set_option maxRecDepth 20000 in
set_option maxHeartbeats 4000000 in
theorem t_X12_classNamed_0 {p : Program} {l : Launch} {e : Env} {s : State} {m : MethodId} {args : Array Value} {below : List Frame} {meth : Method} {c : Code} {H : Heap} {locs : List Loc} {D : va_G} {tc : Nat → ClassId} {b0 : Nat} {ls : Array Slot} {G : Lay} {Qx : Int32 → Mem → Prop} {l0 : Nat} {l1 : Int32} {l2 : Int32} {l3 : Int64}  {σ : Mem} (C : Cx p s m args meth c cX12_classNamed RX12 6 D tc b0) (hr : meth.sig.returnType = (some FieldType.int)) (hS : va_S (AA b0) s.heap H locs) (hW : Wd G D tc b0 σ H) (hl : hL b0 ls 6 [some (.inr (.inr l0)), some (.inl l1), some (.inl l2), some (.inr (.inl l3)), none, none]) (h : X_X12_classNamed_0 G Qx l0 l1 l2 l3  σ) : W p l e rm_X12_classNamed s m args below meth c H locs 0 0 (MQ below (va_Qi Qx (fun u t => Pw G D tc b0 u t) (AA b0)) args s 0 0 (AA b0)) (F0 m 0 ls []) := by
  have hx := C.1
  have hb := C.2.1
  unfold X_X12_classNamed_0 at h
  refine lv_iconst (v := (0 : Int32)) hx hb dX12_classNamed_0 (by decide) ?_
  refine x_istore C hl dX12_classNamed_1 (by decide) rfl (fun ls hl => ?_)
  exact t_X12_classNamed_3 C hr hS hW (hl.keep [true, true, true, true, false, true] rfl) h
theorem T_X12_classNamed (l : Launch) {G : Lay} {D : va_G} {tc : Nat → ClassId} {b0 : Nat} (l0 : Nat) (l1 : Int32) (l2 : Int32) (l3 : Int64) (σ : Mem) (Qx : Int32 → Mem → Prop) (h : X_X12_classNamed G Qx l0 l1 l2 l3 σ) : MI l yX12_classNamed cX12_classNamed 6 ((some FieldType.int)) rm_X12_classNamed G D tc b0 [rv b0 l0, .int l1, .int l2, .long l3] σ Qx :=
  x_entry (y := yX12_classNamed) [.inr (.inr l0), .inl l1, .inl l2, .inr (.inl l3)] 1 (by decide) (Nat.le_of_ble_eq_true rfl) (fun p e s m args below meth c ls C hr hW hl => t_X12_classNamed_0 C hr va_S.rf hW (hl.keep [true, true, true, true, false, false] rfl) h)
/-! X12_memberNamed -/
set_option maxRecDepth 20000 in
set_option maxHeartbeats 4000000 in
theorem t_X12_memberNamed_3_n {p : Program} {l : Launch} {e : Env} {s : State} {m : MethodId} {args : Array Value} {below : List Frame} {meth : Method} {c : Code} {D : va_G} {tc : Nat → ClassId} {b0 : Nat} {G : Lay} {Qx : Int32 → Mem → Prop} {l0 : Nat} {l1 : Int32} {l2 : Int64} (C : Cx p s m args meth c cX12_memberNamed RX12 5 D tc b0) (hr : meth.sig.returnType = (some FieldType.int)) (n : Nat) : ∀ (l4 : Int32) (σ : Mem) (H : Heap) (locs : List Loc) (ls : Array Slot), va_S (AA b0) s.heap H locs → Wd G D tc b0 σ H → hL b0 ls 5 [some (.inr (.inr l0)), some (.inl l1), some (.inr (.inl l2)), none, some (.inl l4)] → Lp (X_X12_memberNamed_3_s G Qx l0 l1 l2) n (l4, σ) → W p l e rm_X12_memberNamed s m args below meth c H locs 0 0 (MQ below (va_Qi Qx (fun u t => Pw G D tc b0 u t) (AA b0)) args s 0 0 (AA b0)) (F0 m 3 ls []) := by
  have hx := C.1
  have hb := C.2.1
  induction n with
  | zero => intro l4 σ H locs ls hS hW hl h; exact False.elim h
  | succ n hK3 =>
    intro l4 σ H locs ls hS hW hl h
    replace h : X_X12_memberNamed_3_s G Qx l0 l1 l2 (Lp (X_X12_memberNamed_3_s G Qx l0 l1 l2) n) (l4, σ) := h
    unfold X_X12_memberNamed_3_s at h
    refine x_iload C hl dX12_memberNamed_3 rfl ?_
    refine x_aload_n C hl dX12_memberNamed_5 rfl ?_
    have t1 := h.1
    replace h := h.2
    refine x_get C hW (t := 12) (k := 6) t1 kl_12 (by decide) fl_X12_23 (v := rv b0 (mR σ l0 6)) rfl dX12_memberNamed_6 ?_
    refine x_iload_n C hl dX12_memberNamed_9 rfl ?_
    have t2 := h.1
    replace h := h.2
    have v3 := h.1
    replace h := h.2
    refine x_iald C hW t2 v3 dX12_memberNamed_10 ?_
    refine lv_icmp_ge hx hb dX12_memberNamed_11 (tgt := 40) rfl (fun hc => ?_) (fun hc => ?_)
    · replace h := h.1 hc
      refine lv_iconst (v := (-1 : Int32)) hx hb dX12_memberNamed_40 (by decide) ?_
      exact r_i C hr hW hS h dX12_memberNamed_41
    · replace h := h.2 hc
      refine x_aload_n C hl dX12_memberNamed_14 rfl ?_
      refine x_get C hW (t := 12) (k := 8) t1 kl_12 (by decide) fl_X12_29 (v := rv b0 (mR σ l0 8)) rfl dX12_memberNamed_15 ?_
      refine lv_bipush (v := (16 : Int32)) hx hb dX12_memberNamed_18 (by decide) ?_
      refine x_iload_n C hl dX12_memberNamed_20 rfl ?_
      refine lv_imul hx hb dX12_memberNamed_21 ?_
      refine x_iload C hl dX12_memberNamed_22 rfl ?_
      refine lv_iadd hx hb dX12_memberNamed_24 ?_
      have t4 := h.1
      replace h := h.2
      have v5 := h.1
      replace h := h.2
      refine x_lald C hW t4 v5 dX12_memberNamed_25 ?_
      refine x_lload_n C hl dX12_memberNamed_26 rfl ?_
      refine W.lcmp hx hb dX12_memberNamed_27 ?_
      refine lv_if_ne hx hb dX12_memberNamed_28 (tgt := 34) rfl (fun hc => ?_) (fun hc => ?_)
      · replace h := h.2 hc
        refine x_iinc C hl dX12_memberNamed_34 rfl (v := (1 : Int32)) (by decide) (by decide) rfl (fun ls hl => ?_)
        refine lv_goto hx hb dX12_memberNamed_37 (tgt := 3) rfl ?_
        exact hK3 _ _ _ _ _ hS hW (hl.keep [true, true, true, false, true] rfl) h
      · replace h := h.1 hc
        refine x_iload C hl dX12_memberNamed_31 rfl ?_
        exact r_i C hr hW hS h dX12_memberNamed_33
set_option maxRecDepth 20000 in
set_option maxHeartbeats 4000000 in
theorem t_X12_memberNamed_3 {p : Program} {l : Launch} {e : Env} {s : State} {m : MethodId} {args : Array Value} {below : List Frame} {meth : Method} {c : Code} {H : Heap} {locs : List Loc} {D : va_G} {tc : Nat → ClassId} {b0 : Nat} {ls : Array Slot} {G : Lay} {Qx : Int32 → Mem → Prop} {l0 : Nat} {l1 : Int32} {l2 : Int64} {l4 : Int32}  {σ : Mem} (C : Cx p s m args meth c cX12_memberNamed RX12 5 D tc b0) (hr : meth.sig.returnType = (some FieldType.int)) (hS : va_S (AA b0) s.heap H locs) (hW : Wd G D tc b0 σ H) (hl : hL b0 ls 5 [some (.inr (.inr l0)), some (.inl l1), some (.inr (.inl l2)), none, some (.inl l4)]) (h : X_X12_memberNamed_3 G Qx l0 l1 l2 l4 σ) : W p l e rm_X12_memberNamed s m args below meth c H locs 0 0 (MQ below (va_Qi Qx (fun u t => Pw G D tc b0 u t) (AA b0)) args s 0 0 (AA b0)) (F0 m 3 ls []) := by
  obtain ⟨n, h⟩ := h
  exact t_X12_memberNamed_3_n C hr n l4 σ H locs ls hS hW hl h
set_option maxRecDepth 20000 in
set_option maxHeartbeats 4000000 in
theorem t_X12_memberNamed_0 {p : Program} {l : Launch} {e : Env} {s : State} {m : MethodId} {args : Array Value} {below : List Frame} {meth : Method} {c : Code} {H : Heap} {locs : List Loc} {D : va_G} {tc : Nat → ClassId} {b0 : Nat} {ls : Array Slot} {G : Lay} {Qx : Int32 → Mem → Prop} {l0 : Nat} {l1 : Int32} {l2 : Int64}  {σ : Mem} (C : Cx p s m args meth c cX12_memberNamed RX12 5 D tc b0) (hr : meth.sig.returnType = (some FieldType.int)) (hS : va_S (AA b0) s.heap H locs) (hW : Wd G D tc b0 σ H) (hl : hL b0 ls 5 [some (.inr (.inr l0)), some (.inl l1), some (.inr (.inl l2)), none, none]) (h : X_X12_memberNamed_0 G Qx l0 l1 l2  σ) : W p l e rm_X12_memberNamed s m args below meth c H locs 0 0 (MQ below (va_Qi Qx (fun u t => Pw G D tc b0 u t) (AA b0)) args s 0 0 (AA b0)) (F0 m 0 ls []) := by
  have hx := C.1
  have hb := C.2.1
  unfold X_X12_memberNamed_0 at h
  refine lv_iconst (v := (0 : Int32)) hx hb dX12_memberNamed_0 (by decide) ?_
  refine x_istore C hl dX12_memberNamed_1 (by decide) rfl (fun ls hl => ?_)
  exact t_X12_memberNamed_3 C hr hS hW (hl.keep [true, true, true, false, true] rfl) h
theorem T_X12_memberNamed (l : Launch) {G : Lay} {D : va_G} {tc : Nat → ClassId} {b0 : Nat} (l0 : Nat) (l1 : Int32) (l2 : Int64) (σ : Mem) (Qx : Int32 → Mem → Prop) (h : X_X12_memberNamed G Qx l0 l1 l2 σ) : MI l yX12_memberNamed cX12_memberNamed 5 ((some FieldType.int)) rm_X12_memberNamed G D tc b0 [rv b0 l0, .int l1, .long l2] σ Qx :=
  x_entry (y := yX12_memberNamed) [.inr (.inr l0), .inl l1, .inr (.inl l2)] 1 (by decide) (Nat.le_of_ble_eq_true rfl) (fun p e s m args below meth c ls C hr hW hl => t_X12_memberNamed_0 C hr va_S.rf hW (hl.keep [true, true, true, false, false] rfl) h)
/-! X12_isA -/
set_option maxRecDepth 20000 in
set_option maxHeartbeats 4000000 in
theorem t_X12_isA_39 {p : Program} {l : Launch} {e : Env} {s : State} {m : MethodId} {args : Array Value} {below : List Frame} {meth : Method} {c : Code} {H : Heap} {locs : List Loc} {D : va_G} {tc : Nat → ClassId} {b0 : Nat} {ls : Array Slot} {G : Lay} {Qx : Int32 → Mem → Prop}  {k0 : Int32} {σ : Mem} (C : Cx p s m args meth c cX12_isA RX12 5 D tc b0) (hr : meth.sig.returnType = (some FieldType.boolean)) (hS : va_S (AA b0) s.heap H locs) (hW : Wd G D tc b0 σ H) (hl : hL b0 ls 5 [none, none, none, none, none]) (h : X_X12_isA_39 G Qx  k0 σ) : W p l e rm_X12_isA s m args below meth c H locs 0 0 (MQ below (va_Qi Qx (fun u t => Pw G D tc b0 u t) (AA b0)) args s 0 0 (AA b0)) (F0 m 39 ls [.int k0]) := by
  have hx := C.1
  have hb := C.2.1
  unfold X_X12_isA_39 at h
  exact r_z C hr hW hS h.1 h.2 dX12_isA_39
set_option maxRecDepth 20000 in
set_option maxHeartbeats 4000000 in
theorem t_X12_isA_28 {p : Program} {l : Launch} {e : Env} {s : State} {m : MethodId} {args : Array Value} {below : List Frame} {meth : Method} {c : Code} {H : Heap} {locs : List Loc} {D : va_G} {tc : Nat → ClassId} {b0 : Nat} {ls : Array Slot} {G : Lay} {Qx : Int32 → Mem → Prop} {l3 : Int32} {l4 : Int32}  {σ : Mem} (C : Cx p s m args meth c cX12_isA RX12 5 D tc b0) (hr : meth.sig.returnType = (some FieldType.boolean)) (hS : va_S (AA b0) s.heap H locs) (hW : Wd G D tc b0 σ H) (hl : hL b0 ls 5 [none, none, none, some (.inl l3), some (.inl l4)]) (h : X_X12_isA_28 G Qx l3 l4  σ) : W p l e rm_X12_isA s m args below meth c H locs 0 0 (MQ below (va_Qi Qx (fun u t => Pw G D tc b0 u t) (AA b0)) args s 0 0 (AA b0)) (F0 m 28 ls []) := by
  have hx := C.1
  have hb := C.2.1
  unfold X_X12_isA_28 at h
  refine x_iload C hl dX12_isA_28 rfl ?_
  refine x_iload_n C hl dX12_isA_30 rfl ?_
  refine lv_icmp_ne hx hb dX12_isA_31 (tgt := 38) rfl (fun hc => ?_) (fun hc => ?_)
  · replace h := h.2 hc
    refine lv_iconst (v := (0 : Int32)) hx hb dX12_isA_38 (by decide) ?_
    exact t_X12_isA_39 C hr hS hW (hl.keep [false, false, false, false, false] rfl) h
  · replace h := h.1 hc
    refine lv_iconst (v := (1 : Int32)) hx hb dX12_isA_34 (by decide) ?_
    refine lv_goto hx hb dX12_isA_35 (tgt := 39) rfl ?_
    exact t_X12_isA_39 C hr hS hW (hl.keep [false, false, false, false, false] rfl) h
set_option maxRecDepth 20000 in
set_option maxHeartbeats 4000000 in
theorem t_X12_isA_3_n {p : Program} {l : Launch} {e : Env} {s : State} {m : MethodId} {args : Array Value} {below : List Frame} {meth : Method} {c : Code} {D : va_G} {tc : Nat → ClassId} {b0 : Nat} {G : Lay} {Qx : Int32 → Mem → Prop} {l0 : Nat} {l1 : Int32} {l3 : Int32} (C : Cx p s m args meth c cX12_isA RX12 5 D tc b0) (hr : meth.sig.returnType = (some FieldType.boolean)) (n : Nat) : ∀ (l4 : Int32) (σ : Mem) (H : Heap) (locs : List Loc) (ls : Array Slot), va_S (AA b0) s.heap H locs → Wd G D tc b0 σ H → hL b0 ls 5 [some (.inr (.inr l0)), some (.inl l1), none, some (.inl l3), some (.inl l4)] → Lp (X_X12_isA_3_s G Qx l0 l1 l3) n (l4, σ) → W p l e rm_X12_isA s m args below meth c H locs 0 0 (MQ below (va_Qi Qx (fun u t => Pw G D tc b0 u t) (AA b0)) args s 0 0 (AA b0)) (F0 m 3 ls []) := by
  have hx := C.1
  have hb := C.2.1
  induction n with
  | zero => intro l4 σ H locs ls hS hW hl h; exact False.elim h
  | succ n hK3 =>
    intro l4 σ H locs ls hS hW hl h
    replace h : X_X12_isA_3_s G Qx l0 l1 l3 (Lp (X_X12_isA_3_s G Qx l0 l1 l3) n) (l4, σ) := h
    unfold X_X12_isA_3_s at h
    refine x_iload C hl dX12_isA_3 rfl ?_
    refine lv_if_lt hx hb dX12_isA_5 (tgt := 28) rfl (fun hc => ?_) (fun hc => ?_)
    · replace h := h.1 hc
      exact t_X12_isA_28 C hr hS hW (hl.keep [false, false, false, true, true] rfl) h
    · replace h := h.2 hc
      refine x_iload C hl dX12_isA_8 rfl ?_
      refine x_iload_n C hl dX12_isA_10 rfl ?_
      refine lv_icmp_eq hx hb dX12_isA_11 (tgt := 28) rfl (fun hc => ?_) (fun hc => ?_)
      · replace h := h.1 hc
        exact t_X12_isA_28 C hr hS hW (hl.keep [false, false, false, true, true] rfl) h
      · replace h := h.2 hc
        refine x_aload_n C hl dX12_isA_14 rfl ?_
        have t1 := h.1
        replace h := h.2
        refine x_get C hW (t := 12) (k := 4) t1 kl_12 (by decide) fl_X12_17 (v := rv b0 (mR σ l0 4)) rfl dX12_isA_15 ?_
        refine x_iload_n C hl dX12_isA_18 rfl ?_
        refine x_iload C hl dX12_isA_19 rfl ?_
        refine lv_iadd hx hb dX12_isA_21 ?_
        have t2 := h.1
        replace h := h.2
        have v3 := h.1
        replace h := h.2
        refine x_iald C hW t2 v3 dX12_isA_22 ?_
        refine x_istore C hl dX12_isA_23 (by decide) rfl (fun ls hl => ?_)
        refine lv_goto hx hb dX12_isA_25 (tgt := 3) rfl ?_
        exact hK3 _ _ _ _ _ hS hW (hl.keep [true, true, false, true, true] rfl) h
set_option maxRecDepth 20000 in
set_option maxHeartbeats 4000000 in
theorem t_X12_isA_3 {p : Program} {l : Launch} {e : Env} {s : State} {m : MethodId} {args : Array Value} {below : List Frame} {meth : Method} {c : Code} {H : Heap} {locs : List Loc} {D : va_G} {tc : Nat → ClassId} {b0 : Nat} {ls : Array Slot} {G : Lay} {Qx : Int32 → Mem → Prop} {l0 : Nat} {l1 : Int32} {l3 : Int32} {l4 : Int32}  {σ : Mem} (C : Cx p s m args meth c cX12_isA RX12 5 D tc b0) (hr : meth.sig.returnType = (some FieldType.boolean)) (hS : va_S (AA b0) s.heap H locs) (hW : Wd G D tc b0 σ H) (hl : hL b0 ls 5 [some (.inr (.inr l0)), some (.inl l1), none, some (.inl l3), some (.inl l4)]) (h : X_X12_isA_3 G Qx l0 l1 l3 l4 σ) : W p l e rm_X12_isA s m args below meth c H locs 0 0 (MQ below (va_Qi Qx (fun u t => Pw G D tc b0 u t) (AA b0)) args s 0 0 (AA b0)) (F0 m 3 ls []) := by
  obtain ⟨n, h⟩ := h
  exact t_X12_isA_3_n C hr n l4 σ H locs ls hS hW hl h
set_option maxRecDepth 20000 in
set_option maxHeartbeats 4000000 in
theorem t_X12_isA_0 {p : Program} {l : Launch} {e : Env} {s : State} {m : MethodId} {args : Array Value} {below : List Frame} {meth : Method} {c : Code} {H : Heap} {locs : List Loc} {D : va_G} {tc : Nat → ClassId} {b0 : Nat} {ls : Array Slot} {G : Lay} {Qx : Int32 → Mem → Prop} {l0 : Nat} {l1 : Int32} {l2 : Int32} {l3 : Int32}  {σ : Mem} (C : Cx p s m args meth c cX12_isA RX12 5 D tc b0) (hr : meth.sig.returnType = (some FieldType.boolean)) (hS : va_S (AA b0) s.heap H locs) (hW : Wd G D tc b0 σ H) (hl : hL b0 ls 5 [some (.inr (.inr l0)), some (.inl l1), some (.inl l2), some (.inl l3), none]) (h : X_X12_isA_0 G Qx l0 l1 l2 l3  σ) : W p l e rm_X12_isA s m args below meth c H locs 0 0 (MQ below (va_Qi Qx (fun u t => Pw G D tc b0 u t) (AA b0)) args s 0 0 (AA b0)) (F0 m 0 ls []) := by
  have hx := C.1
  have hb := C.2.1
  unfold X_X12_isA_0 at h
  refine x_iload_n C hl dX12_isA_0 rfl ?_
  refine x_istore C hl dX12_isA_1 (by decide) rfl (fun ls hl => ?_)
  exact t_X12_isA_3 C hr hS hW (hl.keep [true, true, false, true, true] rfl) h
theorem T_X12_isA (l : Launch) {G : Lay} {D : va_G} {tc : Nat → ClassId} {b0 : Nat} (l0 : Nat) (l1 : Int32) (l2 : Int32) (l3 : Int32) (σ : Mem) (Qx : Int32 → Mem → Prop) (h : X_X12_isA G Qx l0 l1 l2 l3 σ) : MI l yX12_isA cX12_isA 5 ((some FieldType.boolean)) rm_X12_isA G D tc b0 [rv b0 l0, .int l1, .int l2, .int l3] σ Qx :=
  x_entry (y := yX12_isA) [.inr (.inr l0), .inl l1, .inl l2, .inl l3] 1 (by decide) (Nat.le_of_ble_eq_true rfl) (fun p e s m args below meth c ls C hr hW hl => t_X12_isA_0 C hr va_S.rf hW (hl.keep [true, true, true, true, false] rfl) h)
/-! X12_copyMember -/
set_option maxRecDepth 20000 in
set_option maxHeartbeats 4000000 in
theorem t_X12_copyMember_0 {p : Program} {l : Launch} {e : Env} {s : State} {m : MethodId} {args : Array Value} {below : List Frame} {meth : Method} {c : Code} {H : Heap} {locs : List Loc} {D : va_G} {tc : Nat → ClassId} {b0 : Nat} {ls : Array Slot} {G : Lay} {Qx : Mem → Prop} {l0 : Nat} {l1 : Int32} {l2 : Int32} {l3 : Int32}  {σ : Mem} (C : Cx p s m args meth c cX12_copyMember RX12 6 D tc b0) (hr : meth.sig.returnType = (none : Option FieldType)) (hS : va_S (AA b0) s.heap H locs) (hW : Wd G D tc b0 σ H) (hl : hL b0 ls 6 [some (.inr (.inr l0)), some (.inl l1), some (.inl l2), some (.inl l3), none, none]) (h : X_X12_copyMember_0 G Qx l0 l1 l2 l3  σ) : W p l e rm_X12_copyMember s m args below meth c H locs 0 0 (MQ below (va_Qv Qx (fun u t => Pw G D tc b0 u t) (AA b0)) args s 0 0 (AA b0)) (F0 m 0 ls []) := by
  have hx := C.1
  have hb := C.2.1
  unfold X_X12_copyMember_0 at h
  refine lv_bipush (v := (16 : Int32)) hx hb dX12_copyMember_0 (by decide) ?_
  refine x_iload_n C hl dX12_copyMember_2 rfl ?_
  refine lv_imul hx hb dX12_copyMember_3 ?_
  refine x_iload_n C hl dX12_copyMember_4 rfl ?_
  refine lv_iadd hx hb dX12_copyMember_5 ?_
  refine x_istore C hl dX12_copyMember_6 (by decide) rfl (fun ls hl => ?_)
  refine lv_bipush (v := (16 : Int32)) hx hb dX12_copyMember_8 (by decide) ?_
  refine x_iload_n C hl dX12_copyMember_10 rfl ?_
  refine lv_imul hx hb dX12_copyMember_11 ?_
  refine x_iload_n C hl dX12_copyMember_12 rfl ?_
  refine lv_iadd hx hb dX12_copyMember_13 ?_
  refine x_istore C hl dX12_copyMember_14 (by decide) rfl (fun ls hl => ?_)
  refine x_aload_n C hl dX12_copyMember_16 rfl ?_
  have t1 := h.1
  replace h := h.2
  refine x_get C hW (t := 12) (k := 8) t1 kl_12 (by decide) fl_X12_29 (v := rv b0 (mR σ l0 8)) rfl dX12_copyMember_17 ?_
  refine x_iload C hl dX12_copyMember_20 rfl ?_
  refine x_aload_n C hl dX12_copyMember_22 rfl ?_
  refine x_get C hW (t := 12) (k := 8) t1 kl_12 (by decide) fl_X12_29 (v := rv b0 (mR σ l0 8)) rfl dX12_copyMember_23 ?_
  refine x_iload C hl dX12_copyMember_26 rfl ?_
  have t2 := h.1
  replace h := h.2
  have v3 := h.1
  replace h := h.2
  refine x_lald C hW t2 v3 dX12_copyMember_28 ?_
  have v4 := h.1
  replace h := h.2
  refine x_last C hW hS t2 v4 dX12_copyMember_29 (fun H locs hW hS => ?_)
  obtain ⟨s5, e_s5⟩ : ∃ z : Mem, z = (sJ σ (mR σ l0 8) (((16 : Int32) * l2) + l3).toNatClampNeg (mJ σ (mR σ l0 8) (((16 : Int32) * l1) + l3).toNatClampNeg)) := ⟨_, rfl⟩
  replace h := h s5 e_s5
  replace hW : Wd G D tc b0 s5 H := by rw [e_s5]; exact hW
  refine x_aload_n C hl dX12_copyMember_30 rfl ?_
  refine x_get C hW (t := 12) (k := 9) t1 kl_12 (by decide) fl_X12_32 (v := rv b0 (mR s5 l0 9)) rfl dX12_copyMember_31 ?_
  refine x_iload C hl dX12_copyMember_34 rfl ?_
  refine x_aload_n C hl dX12_copyMember_36 rfl ?_
  refine x_get C hW (t := 12) (k := 9) t1 kl_12 (by decide) fl_X12_32 (v := rv b0 (mR s5 l0 9)) rfl dX12_copyMember_37 ?_
  refine x_iload C hl dX12_copyMember_40 rfl ?_
  have t6 := h.1
  replace h := h.2
  have v7 := h.1
  replace h := h.2
  refine x_iald C hW t6 v7 dX12_copyMember_42 ?_
  have v8 := h.1
  replace h := h.2
  refine x_iast C hW hS t6 v8 dX12_copyMember_43 (fun H locs hW hS => ?_)
  obtain ⟨s9, e_s9⟩ : ∃ z : Mem, z = (sI s5 (mR s5 l0 9) (((16 : Int32) * l2) + l3).toNatClampNeg (mI s5 (mR s5 l0 9) (((16 : Int32) * l1) + l3).toNatClampNeg)) := ⟨_, rfl⟩
  replace h := h s9 e_s9
  replace hW : Wd G D tc b0 s9 H := by rw [e_s9]; exact hW
  refine x_aload_n C hl dX12_copyMember_44 rfl ?_
  refine x_get C hW (t := 12) (k := 10) t1 kl_12 (by decide) fl_X12_35 (v := rv b0 (mR s9 l0 10)) rfl dX12_copyMember_45 ?_
  refine x_iload C hl dX12_copyMember_48 rfl ?_
  refine x_aload_n C hl dX12_copyMember_50 rfl ?_
  refine x_get C hW (t := 12) (k := 10) t1 kl_12 (by decide) fl_X12_35 (v := rv b0 (mR s9 l0 10)) rfl dX12_copyMember_51 ?_
  refine x_iload C hl dX12_copyMember_54 rfl ?_
  have t10 := h.1
  replace h := h.2
  have v11 := h.1
  replace h := h.2
  refine x_iald C hW t10 v11 dX12_copyMember_56 ?_
  have v12 := h.1
  replace h := h.2
  refine x_iast C hW hS t10 v12 dX12_copyMember_57 (fun H locs hW hS => ?_)
  obtain ⟨s13, e_s13⟩ : ∃ z : Mem, z = (sI s9 (mR s9 l0 10) (((16 : Int32) * l2) + l3).toNatClampNeg (mI s9 (mR s9 l0 10) (((16 : Int32) * l1) + l3).toNatClampNeg)) := ⟨_, rfl⟩
  replace h := h s13 e_s13
  replace hW : Wd G D tc b0 s13 H := by rw [e_s13]; exact hW
  refine x_aload_n C hl dX12_copyMember_58 rfl ?_
  refine x_get C hW (t := 12) (k := 11) t1 kl_12 (by decide) fl_X12_38 (v := rv b0 (mR s13 l0 11)) rfl dX12_copyMember_59 ?_
  refine x_iload C hl dX12_copyMember_62 rfl ?_
  refine x_aload_n C hl dX12_copyMember_64 rfl ?_
  refine x_get C hW (t := 12) (k := 11) t1 kl_12 (by decide) fl_X12_38 (v := rv b0 (mR s13 l0 11)) rfl dX12_copyMember_65 ?_
  refine x_iload C hl dX12_copyMember_68 rfl ?_
  have t14 := h.1
  replace h := h.2
  have v15 := h.1
  replace h := h.2
  refine x_iald C hW t14 v15 dX12_copyMember_70 ?_
  have v16 := h.1
  replace h := h.2
  refine x_iast C hW hS t14 v16 dX12_copyMember_71 (fun H locs hW hS => ?_)
  obtain ⟨s17, e_s17⟩ : ∃ z : Mem, z = (sI s13 (mR s13 l0 11) (((16 : Int32) * l2) + l3).toNatClampNeg (mI s13 (mR s13 l0 11) (((16 : Int32) * l1) + l3).toNatClampNeg)) := ⟨_, rfl⟩
  replace h := h s17 e_s17
  replace hW : Wd G D tc b0 s17 H := by rw [e_s17]; exact hW
  refine x_aload_n C hl dX12_copyMember_72 rfl ?_
  refine x_get C hW (t := 12) (k := 12) t1 kl_12 (by decide) fl_X12_41 (v := rv b0 (mR s17 l0 12)) rfl dX12_copyMember_73 ?_
  refine x_iload C hl dX12_copyMember_76 rfl ?_
  refine x_aload_n C hl dX12_copyMember_78 rfl ?_
  refine x_get C hW (t := 12) (k := 12) t1 kl_12 (by decide) fl_X12_41 (v := rv b0 (mR s17 l0 12)) rfl dX12_copyMember_79 ?_
  refine x_iload C hl dX12_copyMember_82 rfl ?_
  have t18 := h.1
  replace h := h.2
  have v19 := h.1
  replace h := h.2
  refine x_iald C hW t18 v19 dX12_copyMember_84 ?_
  have v20 := h.1
  replace h := h.2
  refine x_iast C hW hS t18 v20 dX12_copyMember_85 (fun H locs hW hS => ?_)
  obtain ⟨s21, e_s21⟩ : ∃ z : Mem, z = (sI s17 (mR s17 l0 12) (((16 : Int32) * l2) + l3).toNatClampNeg (mI s17 (mR s17 l0 12) (((16 : Int32) * l1) + l3).toNatClampNeg)) := ⟨_, rfl⟩
  replace h := h s21 e_s21
  replace hW : Wd G D tc b0 s21 H := by rw [e_s21]; exact hW
  refine x_aload_n C hl dX12_copyMember_86 rfl ?_
  refine x_get C hW (t := 12) (k := 13) t1 kl_12 (by decide) fl_X12_44 (v := rv b0 (mR s21 l0 13)) rfl dX12_copyMember_87 ?_
  refine x_iload C hl dX12_copyMember_90 rfl ?_
  refine x_aload_n C hl dX12_copyMember_92 rfl ?_
  refine x_get C hW (t := 12) (k := 13) t1 kl_12 (by decide) fl_X12_44 (v := rv b0 (mR s21 l0 13)) rfl dX12_copyMember_93 ?_
  refine x_iload C hl dX12_copyMember_96 rfl ?_
  have t22 := h.1
  replace h := h.2
  have v23 := h.1
  replace h := h.2
  refine x_iald C hW t22 v23 dX12_copyMember_98 ?_
  have v24 := h.1
  replace h := h.2
  refine x_iast C hW hS t22 v24 dX12_copyMember_99 (fun H locs hW hS => ?_)
  obtain ⟨s25, e_s25⟩ : ∃ z : Mem, z = (sI s21 (mR s21 l0 13) (((16 : Int32) * l2) + l3).toNatClampNeg (mI s21 (mR s21 l0 13) (((16 : Int32) * l1) + l3).toNatClampNeg)) := ⟨_, rfl⟩
  replace h := h s25 e_s25
  replace hW : Wd G D tc b0 s25 H := by rw [e_s25]; exact hW
  refine x_aload_n C hl dX12_copyMember_100 rfl ?_
  refine x_get C hW (t := 12) (k := 14) t1 kl_12 (by decide) fl_X12_47 (v := rv b0 (mR s25 l0 14)) rfl dX12_copyMember_101 ?_
  refine x_iload C hl dX12_copyMember_104 rfl ?_
  refine x_aload_n C hl dX12_copyMember_106 rfl ?_
  refine x_get C hW (t := 12) (k := 14) t1 kl_12 (by decide) fl_X12_47 (v := rv b0 (mR s25 l0 14)) rfl dX12_copyMember_107 ?_
  refine x_iload C hl dX12_copyMember_110 rfl ?_
  have t26 := h.1
  replace h := h.2
  have v27 := h.1
  replace h := h.2
  refine x_iald C hW t26 v27 dX12_copyMember_112 ?_
  have v28 := h.1
  replace h := h.2
  refine x_iast C hW hS t26 v28 dX12_copyMember_113 (fun H locs hW hS => ?_)
  obtain ⟨s29, e_s29⟩ : ∃ z : Mem, z = (sI s25 (mR s25 l0 14) (((16 : Int32) * l2) + l3).toNatClampNeg (mI s25 (mR s25 l0 14) (((16 : Int32) * l1) + l3).toNatClampNeg)) := ⟨_, rfl⟩
  replace h := h s29 e_s29
  replace hW : Wd G D tc b0 s29 H := by rw [e_s29]; exact hW
  refine x_aload_n C hl dX12_copyMember_114 rfl ?_
  refine x_get C hW (t := 12) (k := 15) t1 kl_12 (by decide) fl_X12_50 (v := rv b0 (mR s29 l0 15)) rfl dX12_copyMember_115 ?_
  refine x_iload C hl dX12_copyMember_118 rfl ?_
  refine x_aload_n C hl dX12_copyMember_120 rfl ?_
  refine x_get C hW (t := 12) (k := 15) t1 kl_12 (by decide) fl_X12_50 (v := rv b0 (mR s29 l0 15)) rfl dX12_copyMember_121 ?_
  refine x_iload C hl dX12_copyMember_124 rfl ?_
  have t30 := h.1
  replace h := h.2
  have v31 := h.1
  replace h := h.2
  refine x_iald C hW t30 v31 dX12_copyMember_126 ?_
  have v32 := h.1
  replace h := h.2
  refine x_iast C hW hS t30 v32 dX12_copyMember_127 (fun H locs hW hS => ?_)
  obtain ⟨s33, e_s33⟩ : ∃ z : Mem, z = (sI s29 (mR s29 l0 15) (((16 : Int32) * l2) + l3).toNatClampNeg (mI s29 (mR s29 l0 15) (((16 : Int32) * l1) + l3).toNatClampNeg)) := ⟨_, rfl⟩
  replace h := h s33 e_s33
  replace hW : Wd G D tc b0 s33 H := by rw [e_s33]; exact hW
  exact r_v C hr hW hS h dX12_copyMember_128
theorem T_X12_copyMember (l : Launch) {G : Lay} {D : va_G} {tc : Nat → ClassId} {b0 : Nat} (l0 : Nat) (l1 : Int32) (l2 : Int32) (l3 : Int32) (σ : Mem) (Qx : Mem → Prop) (h : X_X12_copyMember G Qx l0 l1 l2 l3 σ) : MV l yX12_copyMember cX12_copyMember 6 ((none : Option FieldType)) rm_X12_copyMember G D tc b0 [rv b0 l0, .int l1, .int l2, .int l3] σ Qx :=
  x_entry (y := yX12_copyMember) [.inr (.inr l0), .inl l1, .inl l2, .inl l3] 2 (by decide) (Nat.le_of_ble_eq_true rfl) (fun p e s m args below meth c ls C hr hW hl => t_X12_copyMember_0 C hr va_S.rf hW (hl.keep [true, true, true, true, false, false] rfl) h)
