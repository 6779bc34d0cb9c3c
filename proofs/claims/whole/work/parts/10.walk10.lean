/-! X12_flush -/
set_option maxRecDepth 20000 in
set_option maxHeartbeats 4000000 in
theorem t_X12_flush_17 {p : Program} {l : Launch} {e : Env} {s : State} {m : MethodId} {args : Array Value} {below : List Frame} {meth : Method} {c : Code} {H : Heap} {locs : List Loc} {D : va_G} {tc : Nat → ClassId} {b0 : Nat} {ls : Array Slot} {G : Lay} {Qx : Int32 → Mem → Prop}  {k0 : Int32} {σ : Mem} (C : Cx p s m args meth c cX12_flush RX12 2 D tc b0) (hr : meth.sig.returnType = (some FieldType.int)) (hS : va_S (AA b0) s.heap H locs) (hW : Wd G D tc b0 σ H) (hl : hL b0 ls 2 [none, none]) (h : X_X12_flush_17 G Qx  k0 σ) : W p l e rm_X12_flush s m args below meth c H locs 0 0 (MQ below (va_Qi Qx (fun u t => Pw G D tc b0 u t) (AA b0)) args s 0 0 (AA b0)) (F0 m 17 ls [.int k0]) := by
  have hx := C.1
  have hb := C.2.1
  unfold X_X12_flush_17 at h
  exact r_i C hr hW hS h dX12_flush_17
set_option maxRecDepth 20000 in
set_option maxHeartbeats 4000000 in
theorem t_X12_flush_0 {p : Program} {l : Launch} {e : Env} {s : State} {m : MethodId} {args : Array Value} {below : List Frame} {meth : Method} {c : Code} {H : Heap} {locs : List Loc} {D : va_G} {tc : Nat → ClassId} {b0 : Nat} {ls : Array Slot} {G : Lay} {Qx : Int32 → Mem → Prop} {l0 : Nat} {l1 : Int32}  {σ : Mem} (C : Cx p s m args meth c cX12_flush RX12 2 D tc b0) (hr : meth.sig.returnType = (some FieldType.int)) (hS : va_S (AA b0) s.heap H locs) (hW : Wd G D tc b0 σ H) (hl : hL b0 ls 2 [some (.inr (.inr l0)), some (.inl l1)]) (h : X_X12_flush_0 G Qx l0 l1  σ) : W p l e rm_X12_flush s m args below meth c H locs 0 0 (MQ below (va_Qi Qx (fun u t => Pw G D tc b0 u t) (AA b0)) args s 0 0 (AA b0)) (F0 m 0 ls []) := by
  have hx := C.1
  have hb := C.2.1
  unfold X_X12_flush_0 at h
  refine x_aload_n C hl dX12_flush_0 rfl ?_
  refine x_iload_n C hl dX12_flush_1 rfl ?_
  have t1 := h.1
  replace h := h.2
  refine y_i (x_run (As := [.int l1]) C hW hS (T_X12_isUnit l l0 l1 σ _ h) t1 kl_12 (CW.of yv_X12_isUnit ml_X12_380) ⟨rfl, rfl, ⟨by decide, by decide⟩, by decide, by decide⟩ rfl hl.1 rfl (by decide) dX12_flush_2) hS (fun w3 s2 H locs h hW hS => ?_)
  refine lv_if_eq hx hb dX12_flush_5 (tgt := 16) rfl (fun hc => ?_) (fun hc => ?_)
  · replace h := h.1 hc
    refine lv_iconst (v := (-1 : Int32)) hx hb dX12_flush_16 (by decide) ?_
    exact t_X12_flush_17 C hr hS hW (hl.keep [false, false] rfl) h
  · replace h := h.2 hc
    refine x_aload_n C hl dX12_flush_8 rfl ?_
    refine x_iload_n C hl dX12_flush_9 rfl ?_
    refine y_i (x_run (As := [.int l1]) C hW hS (T_X12_writeUnit l l0 l1 s2 _ h) t1 kl_12 (CW.of yv_X12_writeUnit ml_X12_492) ⟨rfl, rfl, ⟨by decide, by decide⟩, by decide, by decide⟩ rfl hl.1 rfl (by decide) dX12_flush_10) hS (fun w5 s4 H locs h hW hS => ?_)
    refine lv_goto hx hb dX12_flush_13 (tgt := 17) rfl ?_
    exact t_X12_flush_17 C hr hS hW (hl.keep [false, false] rfl) h
theorem T_X12_flush (l : Launch) {G : Lay} {D : va_G} {tc : Nat → ClassId} {b0 : Nat} (l0 : Nat) (l1 : Int32) (σ : Mem) (Qx : Int32 → Mem → Prop) (h : X_X12_flush G Qx l0 l1 σ) : MI l yX12_flush cX12_flush 2 ((some FieldType.int)) rm_X12_flush G D tc b0 [rv b0 l0, .int l1] σ Qx :=
  x_entry (y := yX12_flush) [.inr (.inr l0), .inl l1] 0 (by decide) (Nat.le_of_ble_eq_true rfl) (fun p e s m args below meth c ls C hr hW hl => t_X12_flush_0 C hr va_S.rf hW (hl.keep [true, true] rfl) h)
/-! X12_close -/
set_option maxRecDepth 20000 in
set_option maxHeartbeats 4000000 in
theorem t_X12_close_17 {p : Program} {l : Launch} {e : Env} {s : State} {m : MethodId} {args : Array Value} {below : List Frame} {meth : Method} {c : Code} {H : Heap} {locs : List Loc} {D : va_G} {tc : Nat → ClassId} {b0 : Nat} {ls : Array Slot} {G : Lay} {Qx : Int32 → Mem → Prop}   {σ : Mem} (C : Cx p s m args meth c cX12_close RX12 4 D tc b0) (hr : meth.sig.returnType = (some FieldType.int)) (hS : va_S (AA b0) s.heap H locs) (hW : Wd G D tc b0 σ H) (hl : hL b0 ls 4 [none, none, none, none]) (h : X_X12_close_17 G Qx   σ) : W p l e rm_X12_close s m args below meth c H locs 0 0 (MQ below (va_Qi Qx (fun u t => Pw G D tc b0 u t) (AA b0)) args s 0 0 (AA b0)) (F0 m 17 ls []) := by
  have hx := C.1
  have hb := C.2.1
  unfold X_X12_close_17 at h
  refine lv_iconst (v := (-1 : Int32)) hx hb dX12_close_17 (by decide) ?_
  exact r_i C hr hW hS h dX12_close_18
set_option maxRecDepth 20000 in
set_option maxHeartbeats 4000000 in
theorem t_X12_close_45 {p : Program} {l : Launch} {e : Env} {s : State} {m : MethodId} {args : Array Value} {below : List Frame} {meth : Method} {c : Code} {H : Heap} {locs : List Loc} {D : va_G} {tc : Nat → ClassId} {b0 : Nat} {ls : Array Slot} {G : Lay} {Qx : Int32 → Mem → Prop} {l3 : Int32}  {σ : Mem} (C : Cx p s m args meth c cX12_close RX12 4 D tc b0) (hr : meth.sig.returnType = (some FieldType.int)) (hS : va_S (AA b0) s.heap H locs) (hW : Wd G D tc b0 σ H) (hl : hL b0 ls 4 [none, none, none, some (.inl l3)]) (h : X_X12_close_45 G Qx l3  σ) : W p l e rm_X12_close s m args below meth c H locs 0 0 (MQ below (va_Qi Qx (fun u t => Pw G D tc b0 u t) (AA b0)) args s 0 0 (AA b0)) (F0 m 45 ls []) := by
  have hx := C.1
  have hb := C.2.1
  unfold X_X12_close_45 at h
  refine x_iload_n C hl dX12_close_45 rfl ?_
  exact r_i C hr hW hS h dX12_close_46
set_option maxRecDepth 20000 in
set_option maxHeartbeats 4000000 in
theorem t_X12_close_33 {p : Program} {l : Launch} {e : Env} {s : State} {m : MethodId} {args : Array Value} {below : List Frame} {meth : Method} {c : Code} {H : Heap} {locs : List Loc} {D : va_G} {tc : Nat → ClassId} {b0 : Nat} {ls : Array Slot} {G : Lay} {Qx : Int32 → Mem → Prop} {l0 : Nat} {l1 : Int32} {k0 : Int32} {σ : Mem} (C : Cx p s m args meth c cX12_close RX12 4 D tc b0) (hr : meth.sig.returnType = (some FieldType.int)) (hS : va_S (AA b0) s.heap H locs) (hW : Wd G D tc b0 σ H) (hl : hL b0 ls 4 [some (.inr (.inr l0)), some (.inl l1), none, none]) (h : X_X12_close_33 G Qx l0 l1 k0 σ) : W p l e rm_X12_close s m args below meth c H locs 0 0 (MQ below (va_Qi Qx (fun u t => Pw G D tc b0 u t) (AA b0)) args s 0 0 (AA b0)) (F0 m 33 ls [.int k0]) := by
  have hx := C.1
  have hb := C.2.1
  unfold X_X12_close_33 at h
  refine x_istore_n C hl dX12_close_33 (by decide) rfl (fun ls hl => ?_)
  refine x_iload_n C hl dX12_close_34 rfl ?_
  refine lv_if_ne hx hb dX12_close_35 (tgt := 45) rfl (fun hc => ?_) (fun hc => ?_)
  · replace h := h.2 hc
    exact t_X12_close_45 C hr hS hW (hl.keep [false, false, false, true] rfl) h
  · replace h := h.1 hc
    refine x_aload_n C hl dX12_close_38 rfl ?_
    have t1 := h.1
    replace h := h.2
    refine x_get C hW (t := 12) (k := 39) t1 kl_12 (by decide) fl_X12_110 (v := rv b0 (mR σ l0 39)) rfl dX12_close_39 ?_
    refine x_iload_n C hl dX12_close_42 rfl ?_
    refine lv_iconst (v := (0 : Int32)) hx hb dX12_close_43 (by decide) ?_
    have t2 := h.1
    replace h := h.2
    have v3 := h.1
    replace h := h.2
    refine x_zast C hW hS t2 v3 dX12_close_44 (fun H locs hW hS => ?_)
    obtain ⟨s4, e_s4⟩ : ∃ z : Mem, z = (sI σ (mR σ l0 39) l1.toNatClampNeg (vp_nar .boolean (0 : Int32))) := ⟨_, rfl⟩
    replace h := h s4 e_s4
    replace hW : Wd G D tc b0 s4 H := by rw [e_s4]; exact hW
    exact t_X12_close_45 C hr hS hW (hl.keep [false, false, false, true] rfl) h
set_option maxRecDepth 20000 in
set_option maxHeartbeats 4000000 in
theorem t_X12_close_0 {p : Program} {l : Launch} {e : Env} {s : State} {m : MethodId} {args : Array Value} {below : List Frame} {meth : Method} {c : Code} {H : Heap} {locs : List Loc} {D : va_G} {tc : Nat → ClassId} {b0 : Nat} {ls : Array Slot} {G : Lay} {Qx : Int32 → Mem → Prop} {l0 : Nat} {l1 : Int32} {l2 : Int32}  {σ : Mem} (C : Cx p s m args meth c cX12_close RX12 4 D tc b0) (hr : meth.sig.returnType = (some FieldType.int)) (hS : va_S (AA b0) s.heap H locs) (hW : Wd G D tc b0 σ H) (hl : hL b0 ls 4 [some (.inr (.inr l0)), some (.inl l1), some (.inl l2), none]) (h : X_X12_close_0 G Qx l0 l1 l2  σ) : W p l e rm_X12_close s m args below meth c H locs 0 0 (MQ below (va_Qi Qx (fun u t => Pw G D tc b0 u t) (AA b0)) args s 0 0 (AA b0)) (F0 m 0 ls []) := by
  have hx := C.1
  have hb := C.2.1
  unfold X_X12_close_0 at h
  refine x_aload_n C hl dX12_close_0 rfl ?_
  refine x_iload_n C hl dX12_close_1 rfl ?_
  have t1 := h.1
  replace h := h.2
  refine y_i (x_run (As := [.int l1]) C hW hS (T_X12_isUnit l l0 l1 σ _ h) t1 kl_12 (CW.of yv_X12_isUnit ml_X12_380) ⟨rfl, rfl, ⟨by decide, by decide⟩, by decide, by decide⟩ rfl hl.1 rfl (by decide) dX12_close_2) hS (fun w3 s2 H locs h hW hS => ?_)
  refine lv_if_eq hx hb dX12_close_5 (tgt := 17) rfl (fun hc => ?_) (fun hc => ?_)
  · replace h := h.1 hc
    exact t_X12_close_17 C hr hS hW (hl.keep [false, false, false, false] rfl) h
  · replace h := h.2 hc
    refine x_iload_n C hl dX12_close_8 rfl ?_
    refine lv_if_lt hx hb dX12_close_9 (tgt := 17) rfl (fun hc => ?_) (fun hc => ?_)
    · replace h := h.1 hc
      exact t_X12_close_17 C hr hS hW (hl.keep [false, false, false, false] rfl) h
    · replace h := h.2 hc
      refine x_iload_n C hl dX12_close_12 rfl ?_
      refine lv_iconst (v := (1 : Int32)) hx hb dX12_close_13 (by decide) ?_
      refine lv_icmp_le hx hb dX12_close_14 (tgt := 19) rfl (fun hc => ?_) (fun hc => ?_)
      · replace h := h.1 hc
        refine x_iload_n C hl dX12_close_19 rfl ?_
        refine lv_iconst (v := (1 : Int32)) hx hb dX12_close_20 (by decide) ?_
        refine lv_icmp_ne hx hb dX12_close_21 (tgt := 32) rfl (fun hc => ?_) (fun hc => ?_)
        · replace h := h.2 hc
          refine lv_iconst (v := (0 : Int32)) hx hb dX12_close_32 (by decide) ?_
          exact t_X12_close_33 C hr hS hW (hl.keep [true, true, false, false] rfl) h
        · replace h := h.1 hc
          refine x_aload_n C hl dX12_close_24 rfl ?_
          refine x_iload_n C hl dX12_close_25 rfl ?_
          refine y_i (x_run (As := [.int l1]) C hW hS (T_X12_writeUnit l l0 l1 s2 _ h) t1 kl_12 (CW.of yv_X12_writeUnit ml_X12_492) ⟨rfl, rfl, ⟨by decide, by decide⟩, by decide, by decide⟩ rfl hl.1 rfl (by decide) dX12_close_26) hS (fun w5 s4 H locs h hW hS => ?_)
          refine lv_goto hx hb dX12_close_29 (tgt := 33) rfl ?_
          exact t_X12_close_33 C hr hS hW (hl.keep [true, true, false, false] rfl) h
      · replace h := h.2 hc
        exact t_X12_close_17 C hr hS hW (hl.keep [false, false, false, false] rfl) h
theorem T_X12_close (l : Launch) {G : Lay} {D : va_G} {tc : Nat → ClassId} {b0 : Nat} (l0 : Nat) (l1 : Int32) (l2 : Int32) (σ : Mem) (Qx : Int32 → Mem → Prop) (h : X_X12_close G Qx l0 l1 l2 σ) : MI l yX12_close cX12_close 4 ((some FieldType.int)) rm_X12_close G D tc b0 [rv b0 l0, .int l1, .int l2] σ Qx :=
  x_entry (y := yX12_close) [.inr (.inr l0), .inl l1, .inl l2] 1 (by decide) (Nat.le_of_ble_eq_true rfl) (fun p e s m args below meth c ls C hr hW hl => t_X12_close_0 C hr va_S.rf hW (hl.keep [true, true, true, false] rfl) h)
/-! X12_outcome -/
set_option maxRecDepth 20000 in
set_option maxHeartbeats 4000000 in
theorem t_X12_outcome_0 {p : Program} {l : Launch} {e : Env} {s : State} {m : MethodId} {args : Array Value} {below : List Frame} {meth : Method} {c : Code} {H : Heap} {locs : List Loc} {D : va_G} {tc : Nat → ClassId} {b0 : Nat} {ls : Array Slot} {G : Lay} {Qx : Int32 → Mem → Prop} {l0 : Nat} {l1 : Int32}  {σ : Mem} (C : Cx p s m args meth c cX12_outcome RX12 2 D tc b0) (hr : meth.sig.returnType = (some FieldType.int)) (hS : va_S (AA b0) s.heap H locs) (hW : Wd G D tc b0 σ H) (hl : hL b0 ls 2 [some (.inr (.inr l0)), some (.inl l1)]) (h : X_X12_outcome_0 G Qx l0 l1  σ) : W p l e rm_X12_outcome s m args below meth c H locs 0 0 (MQ below (va_Qi Qx (fun u t => Pw G D tc b0 u t) (AA b0)) args s 0 0 (AA b0)) (F0 m 0 ls []) := by
  have hx := C.1
  have hb := C.2.1
  unfold X_X12_outcome_0 at h
  refine x_iload_n C hl dX12_outcome_0 rfl ?_
  by_cases hc0 : l1 = 0
  · replace h := h.1 hc0
    rw [hc0]
    refine lv_tableIn hx hb dX12_outcome_1 (by decide) (by decide) (off := 35) rfl (tgt := 36) rfl ?_
    refine x_aload_n C hl dX12_outcome_36 rfl ?_
    have t1 := h.1
    replace h := h.2
    refine x_get C hW (t := 12) (k := 64) t1 kl_12 (by decide) fl_X12_434 (v := .int (mI σ l0 64)) rfl dX12_outcome_37 ?_
    exact r_i C hr hW hS h dX12_outcome_40
  replace h := h.2
  by_cases hc1 : l1 = 1
  · replace h := h.1 hc1
    rw [hc1]
    refine lv_tableIn hx hb dX12_outcome_1 (by decide) (by decide) (off := 40) rfl (tgt := 41) rfl ?_
    refine x_aload_n C hl dX12_outcome_41 rfl ?_
    have t2 := h.1
    replace h := h.2
    refine x_get C hW (t := 12) (k := 65) t2 kl_12 (by decide) fl_X12_157 (v := .int (mI σ l0 65)) rfl dX12_outcome_42 ?_
    exact r_i C hr hW hS h dX12_outcome_45
  replace h := h.2
  by_cases hc2 : l1 = 2
  · replace h := h.1 hc2
    rw [hc2]
    refine lv_tableIn hx hb dX12_outcome_1 (by decide) (by decide) (off := 45) rfl (tgt := 46) rfl ?_
    refine x_aload_n C hl dX12_outcome_46 rfl ?_
    have t3 := h.1
    replace h := h.2
    refine x_get C hW (t := 12) (k := 66) t3 kl_12 (by decide) fl_X12_160 (v := .int (mI σ l0 66)) rfl dX12_outcome_47 ?_
    exact r_i C hr hW hS h dX12_outcome_50
  replace h := h.2
  by_cases hc3 : l1 = 3
  · replace h := h.1 hc3
    rw [hc3]
    refine lv_tableIn hx hb dX12_outcome_1 (by decide) (by decide) (off := 50) rfl (tgt := 51) rfl ?_
    refine x_aload_n C hl dX12_outcome_51 rfl ?_
    have t4 := h.1
    replace h := h.2
    refine x_get C hW (t := 12) (k := 67) t4 kl_12 (by decide) fl_X12_163 (v := .int (mI σ l0 67)) rfl dX12_outcome_52 ?_
    exact r_i C hr hW hS h dX12_outcome_55
  replace h := h.2
  by_cases hc4 : l1 = 4
  · replace h := h.1 hc4
    rw [hc4]
    refine lv_tableIn hx hb dX12_outcome_1 (by decide) (by decide) (off := 55) rfl (tgt := 56) rfl ?_
    refine x_aload_n C hl dX12_outcome_56 rfl ?_
    have t5 := h.1
    replace h := h.2
    refine x_get C hW (t := 12) (k := 68) t5 kl_12 (by decide) fl_X12_166 (v := .int (mI σ l0 68)) rfl dX12_outcome_57 ?_
    exact r_i C hr hW hS h dX12_outcome_60
  replace h := h.2
  replace h := h ⟨hc0, hc1, hc2, hc3, hc4⟩
  refine lv_tableOut hx hb dX12_outcome_1 (tb_out5 hc0 hc1 hc2 hc3 hc4) (tgt := 61) rfl ?_
  refine lv_iconst (v := (-1 : Int32)) hx hb dX12_outcome_61 (by decide) ?_
  exact r_i C hr hW hS h dX12_outcome_62
theorem T_X12_outcome (l : Launch) {G : Lay} {D : va_G} {tc : Nat → ClassId} {b0 : Nat} (l0 : Nat) (l1 : Int32) (σ : Mem) (Qx : Int32 → Mem → Prop) (h : X_X12_outcome G Qx l0 l1 σ) : MI l yX12_outcome cX12_outcome 2 ((some FieldType.int)) rm_X12_outcome G D tc b0 [rv b0 l0, .int l1] σ Qx :=
  x_entry (y := yX12_outcome) [.inr (.inr l0), .inl l1] 0 (by decide) (Nat.le_of_ble_eq_true rfl) (fun p e s m args below meth c ls C hr hW hl => t_X12_outcome_0 C hr va_S.rf hW (hl.keep [true, true] rfl) h)
/-! X12_write -/
set_option maxRecDepth 20000 in
set_option maxHeartbeats 4000000 in
theorem t_X12_write_12 {p : Program} {l : Launch} {e : Env} {s : State} {m : MethodId} {args : Array Value} {below : List Frame} {meth : Method} {c : Code} {H : Heap} {locs : List Loc} {D : va_G} {tc : Nat → ClassId} {b0 : Nat} {ls : Array Slot} {G : Lay} {Qx : Int32 → Mem → Prop}   {σ : Mem} (C : Cx p s m args meth c cX12_write RX12 3 D tc b0) (hr : meth.sig.returnType = (some FieldType.int)) (hS : va_S (AA b0) s.heap H locs) (hW : Wd G D tc b0 σ H) (hl : hL b0 ls 3 [none, none, none]) (h : X_X12_write_12 G Qx   σ) : W p l e rm_X12_write s m args below meth c H locs 0 0 (MQ below (va_Qi Qx (fun u t => Pw G D tc b0 u t) (AA b0)) args s 0 0 (AA b0)) (F0 m 12 ls []) := by
  have hx := C.1
  have hb := C.2.1
  unfold X_X12_write_12 at h
  refine lv_iconst (v := (-1 : Int32)) hx hb dX12_write_12 (by decide) ?_
  exact r_i C hr hW hS h dX12_write_13
set_option maxRecDepth 20000 in
set_option maxHeartbeats 4000000 in
theorem t_X12_write_0 {p : Program} {l : Launch} {e : Env} {s : State} {m : MethodId} {args : Array Value} {below : List Frame} {meth : Method} {c : Code} {H : Heap} {locs : List Loc} {D : va_G} {tc : Nat → ClassId} {b0 : Nat} {ls : Array Slot} {G : Lay} {Qx : Int32 → Mem → Prop} {l0 : Nat} {l1 : Int32} {l2 : Int32}  {σ : Mem} (C : Cx p s m args meth c cX12_write RX12 3 D tc b0) (hr : meth.sig.returnType = (some FieldType.int)) (hS : va_S (AA b0) s.heap H locs) (hW : Wd G D tc b0 σ H) (hl : hL b0 ls 3 [some (.inr (.inr l0)), some (.inl l1), some (.inl l2)]) (h : X_X12_write_0 G Qx l0 l1 l2  σ) : W p l e rm_X12_write s m args below meth c H locs 0 0 (MQ below (va_Qi Qx (fun u t => Pw G D tc b0 u t) (AA b0)) args s 0 0 (AA b0)) (F0 m 0 ls []) := by
  have hx := C.1
  have hb := C.2.1
  unfold X_X12_write_0 at h
  refine x_iload_n C hl dX12_write_0 rfl ?_
  refine lv_if_lt hx hb dX12_write_1 (tgt := 12) rfl (fun hc => ?_) (fun hc => ?_)
  · replace h := h.1 hc
    exact t_X12_write_12 C hr hS hW (hl.keep [false, false, false] rfl) h
  · replace h := h.2 hc
    refine x_iload_n C hl dX12_write_4 rfl ?_
    refine x_aload_n C hl dX12_write_5 rfl ?_
    have t1 := h.1
    replace h := h.2
    refine x_get C hW (t := 12) (k := 69) t1 kl_12 (by decide) fl_X12_437 (v := .int (mI σ l0 69)) rfl dX12_write_6 ?_
    refine lv_icmp_lt hx hb dX12_write_9 (tgt := 14) rfl (fun hc => ?_) (fun hc => ?_)
    · replace h := h.1 hc
      refine x_iload_n C hl dX12_write_14 rfl ?_
      by_cases hc0 : l2 = 0
      · replace h := h.1 hc0
        rw [hc0]
        refine lv_tableIn hx hb dX12_write_15 (by decide) (by decide) (off := 29) rfl (tgt := 44) rfl ?_
        refine x_aload_n C hl dX12_write_44 rfl ?_
        refine x_get C hW (t := 12) (k := 70) t1 kl_12 (by decide) fl_X12_169 (v := rv b0 (mR σ l0 70)) rfl dX12_write_45 ?_
        refine x_iload_n C hl dX12_write_48 rfl ?_
        have t2 := h.1
        replace h := h.2
        have v3 := h.1
        replace h := h.2
        refine x_iald C hW t2 v3 dX12_write_49 ?_
        exact r_i C hr hW hS h dX12_write_50
      replace h := h.2
      by_cases hc1 : l2 = 1
      · replace h := h.1 hc1
        rw [hc1]
        refine lv_tableIn hx hb dX12_write_15 (by decide) (by decide) (off := 36) rfl (tgt := 51) rfl ?_
        refine x_aload_n C hl dX12_write_51 rfl ?_
        refine x_get C hW (t := 12) (k := 71) t1 kl_12 (by decide) fl_X12_172 (v := rv b0 (mR σ l0 71)) rfl dX12_write_52 ?_
        refine x_iload_n C hl dX12_write_55 rfl ?_
        have t4 := h.1
        replace h := h.2
        have v5 := h.1
        replace h := h.2
        refine x_iald C hW t4 v5 dX12_write_56 ?_
        exact r_i C hr hW hS h dX12_write_57
      replace h := h.2
      by_cases hc2 : l2 = 2
      · replace h := h.1 hc2
        rw [hc2]
        refine lv_tableIn hx hb dX12_write_15 (by decide) (by decide) (off := 43) rfl (tgt := 58) rfl ?_
        refine x_aload_n C hl dX12_write_58 rfl ?_
        refine x_get C hW (t := 12) (k := 72) t1 kl_12 (by decide) fl_X12_175 (v := rv b0 (mR σ l0 72)) rfl dX12_write_59 ?_
        refine x_iload_n C hl dX12_write_62 rfl ?_
        have t6 := h.1
        replace h := h.2
        have v7 := h.1
        replace h := h.2
        refine x_iald C hW t6 v7 dX12_write_63 ?_
        exact r_i C hr hW hS h dX12_write_64
      replace h := h.2
      by_cases hc3 : l2 = 3
      · replace h := h.1 hc3
        rw [hc3]
        refine lv_tableIn hx hb dX12_write_15 (by decide) (by decide) (off := 50) rfl (tgt := 65) rfl ?_
        refine x_aload_n C hl dX12_write_65 rfl ?_
        refine x_get C hW (t := 12) (k := 73) t1 kl_12 (by decide) fl_X12_178 (v := rv b0 (mR σ l0 73)) rfl dX12_write_66 ?_
        refine x_iload_n C hl dX12_write_69 rfl ?_
        have t8 := h.1
        replace h := h.2
        have v9 := h.1
        replace h := h.2
        refine x_iald C hW t8 v9 dX12_write_70 ?_
        exact r_i C hr hW hS h dX12_write_71
      replace h := h.2
      replace h := h ⟨hc0, hc1, hc2, hc3⟩
      refine lv_tableOut hx hb dX12_write_15 (tb_out4 hc0 hc1 hc2 hc3) (tgt := 72) rfl ?_
      refine lv_iconst (v := (-1 : Int32)) hx hb dX12_write_72 (by decide) ?_
      exact r_i C hr hW hS h dX12_write_73
    · replace h := h.2 hc
      exact t_X12_write_12 C hr hS hW (hl.keep [false, false, false] rfl) h
theorem T_X12_write (l : Launch) {G : Lay} {D : va_G} {tc : Nat → ClassId} {b0 : Nat} (l0 : Nat) (l1 : Int32) (l2 : Int32) (σ : Mem) (Qx : Int32 → Mem → Prop) (h : X_X12_write G Qx l0 l1 l2 σ) : MI l yX12_write cX12_write 3 ((some FieldType.int)) rm_X12_write G D tc b0 [rv b0 l0, .int l1, .int l2] σ Qx :=
  x_entry (y := yX12_write) [.inr (.inr l0), .inl l1, .inl l2] 0 (by decide) (Nat.le_of_ble_eq_true rfl) (fun p e s m args below meth c ls C hr hW hl => t_X12_write_0 C hr va_S.rf hW (hl.keep [true, true, true] rfl) h)
/-! X12_cell -/
set_option maxRecDepth 20000 in
set_option maxHeartbeats 4000000 in
theorem t_X12_cell_12 {p : Program} {l : Launch} {e : Env} {s : State} {m : MethodId} {args : Array Value} {below : List Frame} {meth : Method} {c : Code} {H : Heap} {locs : List Loc} {D : va_G} {tc : Nat → ClassId} {b0 : Nat} {ls : Array Slot} {G : Lay} {Qx : Int64 → Mem → Prop}   {σ : Mem} (C : Cx p s m args meth c cX12_cell RX12 12 D tc b0) (hr : meth.sig.returnType = (some FieldType.long)) (hS : va_S (AA b0) s.heap H locs) (hW : Wd G D tc b0 σ H) (hl : hL b0 ls 12 [none, none, none, none, none, none, none, none, none, none, none, none]) (h : X_X12_cell_12 G Qx   σ) : W p l e rm_X12_cell s m args below meth c H locs 0 0 (MQ below (va_Ql Qx (fun u t => Pw G D tc b0 u t) (AA b0)) args s 0 0 (AA b0)) (F0 m 12 ls []) := by
  have hx := C.1
  have hb := C.2.1
  unfold X_X12_cell_12 at h
  refine lv_ldc2 (own := RX12) (v := (-9223372036854775808 : Int64)) hx hb C.2.2.2.1 (C.2.2.2.2.1 _ (gc8 230 rfl rfl)) dX12_cell_12 ?_
  exact r_l C hr hW hS h dX12_cell_15
set_option maxRecDepth 20000 in
set_option maxHeartbeats 4000000 in
theorem t_X12_cell_310 {p : Program} {l : Launch} {e : Env} {s : State} {m : MethodId} {args : Array Value} {below : List Frame} {meth : Method} {c : Code} {H : Heap} {locs : List Loc} {D : va_G} {tc : Nat → ClassId} {b0 : Nat} {ls : Array Slot} {G : Lay} {Qx : Int64 → Mem → Prop}  {k0 : Int64} {σ : Mem} (C : Cx p s m args meth c cX12_cell RX12 12 D tc b0) (hr : meth.sig.returnType = (some FieldType.long)) (hS : va_S (AA b0) s.heap H locs) (hW : Wd G D tc b0 σ H) (hl : hL b0 ls 12 [none, none, none, none, none, none, none, none, none, none, none, none]) (h : X_X12_cell_310 G Qx  k0 σ) : W p l e rm_X12_cell s m args below meth c H locs 0 0 (MQ below (va_Ql Qx (fun u t => Pw G D tc b0 u t) (AA b0)) args s 0 0 (AA b0)) (F0 m 310 ls [.long k0]) := by
  have hx := C.1
  have hb := C.2.1
  unfold X_X12_cell_310 at h
  exact r_l C hr hW hS h dX12_cell_310
set_option maxRecDepth 20000 in
set_option maxHeartbeats 4000000 in
theorem t_X12_cell_314 {p : Program} {l : Launch} {e : Env} {s : State} {m : MethodId} {args : Array Value} {below : List Frame} {meth : Method} {c : Code} {H : Heap} {locs : List Loc} {D : va_G} {tc : Nat → ClassId} {b0 : Nat} {ls : Array Slot} {G : Lay} {Qx : Int64 → Mem → Prop} {l0 : Nat} {l1 : Int32} {l4 : Int32} {l5 : Int32} {l6 : Int32} {l7 : Int32} {l8 : Int32} {l9 : Int32} {l11 : Int32}  {K160 : Int32 × Int32 × Mem → Prop} {K217 : Int32 × Int32 × Mem → Prop} {σ : Mem} (C : Cx p s m args meth c cX12_cell RX12 12 D tc b0) (hr : meth.sig.returnType = (some FieldType.long)) (hK160 : ∀ (x8 : Int32) (x9 : Int32) (σ : Mem) (H : Heap) (locs : List Loc) (ls : Array Slot), va_S (AA b0) s.heap H locs → Wd G D tc b0 σ H → hL b0 ls 12 [some (.inr (.inr l0)), some (.inl l1), none, none, some (.inl l4), some (.inl l5), some (.inl l6), some (.inl l7), some (.inl x8), some (.inl x9), none, none] → K160 (x8, x9, σ) → W p l e rm_X12_cell s m args below meth c H locs 0 0 (MQ below (va_Ql Qx (fun u t => Pw G D tc b0 u t) (AA b0)) args s 0 0 (AA b0)) (F0 m 160 ls [])) (hK217 : ∀ (x8 : Int32) (x11 : Int32) (σ : Mem) (H : Heap) (locs : List Loc) (ls : Array Slot), va_S (AA b0) s.heap H locs → Wd G D tc b0 σ H → hL b0 ls 12 [some (.inr (.inr l0)), some (.inl l1), none, none, some (.inl l4), some (.inl l5), some (.inl l6), some (.inl l7), some (.inl x8), some (.inl l9), none, some (.inl x11)] → K217 (x8, x11, σ) → W p l e rm_X12_cell s m args below meth c H locs 0 0 (MQ below (va_Ql Qx (fun u t => Pw G D tc b0 u t) (AA b0)) args s 0 0 (AA b0)) (F0 m 217 ls [])) (hS : va_S (AA b0) s.heap H locs) (hW : Wd G D tc b0 σ H) (hl : hL b0 ls 12 [some (.inr (.inr l0)), some (.inl l1), none, none, some (.inl l4), some (.inl l5), some (.inl l6), some (.inl l7), some (.inl l8), some (.inl l9), none, some (.inl l11)]) (h : X_X12_cell_314 G Qx K160 K217 l0 l1 l4 l5 l6 l7 l8 l9 l11  σ) : W p l e rm_X12_cell s m args below meth c H locs 0 0 (MQ below (va_Ql Qx (fun u t => Pw G D tc b0 u t) (AA b0)) args s 0 0 (AA b0)) (F0 m 314 ls []) := by
  have hx := C.1
  have hb := C.2.1
  unfold X_X12_cell_314 at h
  refine x_iinc C hl dX12_cell_314 rfl (v := (1 : Int32)) (by decide) (by decide) rfl (fun ls hl => ?_)
  refine lv_goto hx hb dX12_cell_317 (tgt := 217) rfl ?_
  exact hK217 _ _ _ _ _ _ hS hW (hl.keep [true, true, false, false, true, true, true, true, true, true, false, true] rfl) h
set_option maxRecDepth 20000 in
set_option maxHeartbeats 4000000 in
theorem t_X12_cell_273 {p : Program} {l : Launch} {e : Env} {s : State} {m : MethodId} {args : Array Value} {below : List Frame} {meth : Method} {c : Code} {H : Heap} {locs : List Loc} {D : va_G} {tc : Nat → ClassId} {b0 : Nat} {ls : Array Slot} {G : Lay} {Qx : Int64 → Mem → Prop} {l0 : Nat} {l1 : Int32} {l4 : Int32} {l5 : Int32} {l6 : Int32} {l7 : Int32} {l8 : Int32} {l9 : Int32} {l11 : Int32}  {K160 : Int32 × Int32 × Mem → Prop} {K217 : Int32 × Int32 × Mem → Prop} {σ : Mem} (C : Cx p s m args meth c cX12_cell RX12 12 D tc b0) (hr : meth.sig.returnType = (some FieldType.long)) (hK160 : ∀ (x8 : Int32) (x9 : Int32) (σ : Mem) (H : Heap) (locs : List Loc) (ls : Array Slot), va_S (AA b0) s.heap H locs → Wd G D tc b0 σ H → hL b0 ls 12 [some (.inr (.inr l0)), some (.inl l1), none, none, some (.inl l4), some (.inl l5), some (.inl l6), some (.inl l7), some (.inl x8), some (.inl x9), none, none] → K160 (x8, x9, σ) → W p l e rm_X12_cell s m args below meth c H locs 0 0 (MQ below (va_Ql Qx (fun u t => Pw G D tc b0 u t) (AA b0)) args s 0 0 (AA b0)) (F0 m 160 ls [])) (hK217 : ∀ (x8 : Int32) (x11 : Int32) (σ : Mem) (H : Heap) (locs : List Loc) (ls : Array Slot), va_S (AA b0) s.heap H locs → Wd G D tc b0 σ H → hL b0 ls 12 [some (.inr (.inr l0)), some (.inl l1), none, none, some (.inl l4), some (.inl l5), some (.inl l6), some (.inl l7), some (.inl x8), some (.inl l9), none, some (.inl x11)] → K217 (x8, x11, σ) → W p l e rm_X12_cell s m args below meth c H locs 0 0 (MQ below (va_Ql Qx (fun u t => Pw G D tc b0 u t) (AA b0)) args s 0 0 (AA b0)) (F0 m 217 ls [])) (hS : va_S (AA b0) s.heap H locs) (hW : Wd G D tc b0 σ H) (hl : hL b0 ls 12 [some (.inr (.inr l0)), some (.inl l1), none, none, some (.inl l4), some (.inl l5), some (.inl l6), some (.inl l7), some (.inl l8), some (.inl l9), none, some (.inl l11)]) (h : X_X12_cell_273 G Qx K160 K217 l0 l1 l4 l5 l6 l7 l8 l9 l11  σ) : W p l e rm_X12_cell s m args below meth c H locs 0 0 (MQ below (va_Ql Qx (fun u t => Pw G D tc b0 u t) (AA b0)) args s 0 0 (AA b0)) (F0 m 273 ls []) := by
  have hx := C.1
  have hb := C.2.1
  unfold X_X12_cell_273 at h
  refine x_iload C hl dX12_cell_273 rfl ?_
  refine lv_if_ne hx hb dX12_cell_275 (tgt := 311) rfl (fun hc => ?_) (fun hc => ?_)
  · replace h := h.2 hc
    refine x_iinc C hl dX12_cell_311 rfl (v := (-1 : Int32)) (by decide) (by decide) rfl (fun ls hl => ?_)
    exact t_X12_cell_314 C hr hK160 hK217 hS hW (hl.keep [true, true, false, false, true, true, true, true, true, true, false, true] rfl) h
  · replace h := h.1 hc
    refine x_aload_n C hl dX12_cell_278 rfl ?_
    refine lv_iconst (v := (0 : Int32)) hx hb dX12_cell_279 (by decide) ?_
    refine x_iload C hl dX12_cell_280 rfl ?_
    refine x_iload C hl dX12_cell_282 rfl ?_
    have t1 := h.1
    replace h := h.2
    refine y_i (x_run (As := [.int (0 : Int32), .int l7, .int l9]) C hW hS (T_X12_isA l l0 (0 : Int32) l7 l9 σ _ h) t1 kl_12 (CW.of yv_X12_isA ml_X12_315) ⟨rfl, rfl, ⟨by decide, by decide⟩, by decide, by decide⟩ rfl hl.1 rfl (by decide) dX12_cell_284) hS (fun w3 s2 H locs h hW hS => ?_)
    refine lv_if_eq hx hb dX12_cell_287 (tgt := 307) rfl (fun hc => ?_) (fun hc => ?_)
    · replace h := h.1 hc
      refine lv_ldc2 (own := RX12) (v := (-4294967296 : Int64)) hx hb C.2.2.2.1 (C.2.2.2.2.1 _ (gc9 137 rfl rfl)) dX12_cell_307 ?_
      exact t_X12_cell_310 C hr hS hW (hl.keep [false, false, false, false, false, false, false, false, false, false, false, false] rfl) h
    · replace h := h.2 hc
      refine x_aload_n C hl dX12_cell_290 rfl ?_
      refine x_get C hW (t := 12) (k := 31) t1 kl_12 (by decide) fl_X12_89 (v := rv b0 (mR s2 l0 31)) rfl dX12_cell_291 ?_
      refine lv_bipush (v := (16 : Int32)) hx hb dX12_cell_294 (by decide) ?_
      refine x_iload C hl dX12_cell_296 rfl ?_
      refine lv_imul hx hb dX12_cell_298 ?_
      refine x_iload C hl dX12_cell_299 rfl ?_
      refine lv_iadd hx hb dX12_cell_301 ?_
      have t4 := h.1
      replace h := h.2
      have v5 := h.1
      replace h := h.2
      refine x_iald C hW t4 v5 dX12_cell_302 ?_
      refine lv_i2l hx hb dX12_cell_303 rfl ?_
      refine lv_goto hx hb dX12_cell_304 (tgt := 310) rfl ?_
      exact t_X12_cell_310 C hr hS hW (hl.keep [false, false, false, false, false, false, false, false, false, false, false, false] rfl) h
set_option maxRecDepth 20000 in
set_option maxHeartbeats 4000000 in
theorem t_X12_cell_320 {p : Program} {l : Launch} {e : Env} {s : State} {m : MethodId} {args : Array Value} {below : List Frame} {meth : Method} {c : Code} {H : Heap} {locs : List Loc} {D : va_G} {tc : Nat → ClassId} {b0 : Nat} {ls : Array Slot} {G : Lay} {Qx : Int64 → Mem → Prop} {l0 : Nat} {l1 : Int32} {l4 : Int32} {l5 : Int32} {l6 : Int32} {l7 : Int32} {l8 : Int32} {l9 : Int32}  {K160 : Int32 × Int32 × Mem → Prop} {σ : Mem} (C : Cx p s m args meth c cX12_cell RX12 12 D tc b0) (hr : meth.sig.returnType = (some FieldType.long)) (hK160 : ∀ (x8 : Int32) (x9 : Int32) (σ : Mem) (H : Heap) (locs : List Loc) (ls : Array Slot), va_S (AA b0) s.heap H locs → Wd G D tc b0 σ H → hL b0 ls 12 [some (.inr (.inr l0)), some (.inl l1), none, none, some (.inl l4), some (.inl l5), some (.inl l6), some (.inl l7), some (.inl x8), some (.inl x9), none, none] → K160 (x8, x9, σ) → W p l e rm_X12_cell s m args below meth c H locs 0 0 (MQ below (va_Ql Qx (fun u t => Pw G D tc b0 u t) (AA b0)) args s 0 0 (AA b0)) (F0 m 160 ls [])) (hS : va_S (AA b0) s.heap H locs) (hW : Wd G D tc b0 σ H) (hl : hL b0 ls 12 [some (.inr (.inr l0)), some (.inl l1), none, none, some (.inl l4), some (.inl l5), some (.inl l6), some (.inl l7), some (.inl l8), some (.inl l9), none, none]) (h : X_X12_cell_320 G Qx K160 l0 l1 l4 l5 l6 l7 l8 l9  σ) : W p l e rm_X12_cell s m args below meth c H locs 0 0 (MQ below (va_Ql Qx (fun u t => Pw G D tc b0 u t) (AA b0)) args s 0 0 (AA b0)) (F0 m 320 ls []) := by
  have hx := C.1
  have hb := C.2.1
  unfold X_X12_cell_320 at h
  refine x_iinc C hl dX12_cell_320 rfl (v := (1 : Int32)) (by decide) (by decide) rfl (fun ls hl => ?_)
  refine lv_goto hx hb dX12_cell_323 (tgt := 160) rfl ?_
  exact hK160 _ _ _ _ _ _ hS hW (hl.keep [true, true, false, false, true, true, true, true, true, true, false, false] rfl) h
set_option maxRecDepth 20000 in
set_option maxHeartbeats 4000000 in
theorem t_X12_cell_217_n {p : Program} {l : Launch} {e : Env} {s : State} {m : MethodId} {args : Array Value} {below : List Frame} {meth : Method} {c : Code} {D : va_G} {tc : Nat → ClassId} {b0 : Nat} {G : Lay} {Qx : Int64 → Mem → Prop} {l0 : Nat} {l1 : Int32} {l4 : Int32} {l5 : Int32} {l6 : Int32} {l7 : Int32} {l9 : Int32} {K160 : Int32 × Int32 × Mem → Prop} (C : Cx p s m args meth c cX12_cell RX12 12 D tc b0) (hr : meth.sig.returnType = (some FieldType.long)) (hK160 : ∀ (x8 : Int32) (x9 : Int32) (σ : Mem) (H : Heap) (locs : List Loc) (ls : Array Slot), va_S (AA b0) s.heap H locs → Wd G D tc b0 σ H → hL b0 ls 12 [some (.inr (.inr l0)), some (.inl l1), none, none, some (.inl l4), some (.inl l5), some (.inl l6), some (.inl l7), some (.inl x8), some (.inl x9), none, none] → K160 (x8, x9, σ) → W p l e rm_X12_cell s m args below meth c H locs 0 0 (MQ below (va_Ql Qx (fun u t => Pw G D tc b0 u t) (AA b0)) args s 0 0 (AA b0)) (F0 m 160 ls [])) (n : Nat) : ∀ (l8 : Int32) (l11 : Int32) (σ : Mem) (H : Heap) (locs : List Loc) (ls : Array Slot), va_S (AA b0) s.heap H locs → Wd G D tc b0 σ H → hL b0 ls 12 [some (.inr (.inr l0)), some (.inl l1), none, none, some (.inl l4), some (.inl l5), some (.inl l6), some (.inl l7), some (.inl l8), some (.inl l9), none, some (.inl l11)] → Lp (X_X12_cell_217_s G Qx K160 l0 l1 l4 l5 l6 l7 l9) n (l8, l11, σ) → W p l e rm_X12_cell s m args below meth c H locs 0 0 (MQ below (va_Ql Qx (fun u t => Pw G D tc b0 u t) (AA b0)) args s 0 0 (AA b0)) (F0 m 217 ls []) := by
  have hx := C.1
  have hb := C.2.1
  induction n with
  | zero => intro l8 l11 σ H locs ls hS hW hl h; exact False.elim h
  | succ n hK217 =>
    intro l8 l11 σ H locs ls hS hW hl h
    replace h : X_X12_cell_217_s G Qx K160 l0 l1 l4 l5 l6 l7 l9 (Lp (X_X12_cell_217_s G Qx K160 l0 l1 l4 l5 l6 l7 l9) n) (l8, l11, σ) := h
    unfold X_X12_cell_217_s at h
    refine x_iload C hl dX12_cell_217 rfl ?_
    refine x_aload_n C hl dX12_cell_219 rfl ?_
    have t1 := h.1
    replace h := h.2
    refine x_get C hW (t := 12) (k := 6) t1 kl_12 (by decide) fl_X12_23 (v := rv b0 (mR σ l0 6)) rfl dX12_cell_220 ?_
    refine x_iload C hl dX12_cell_223 rfl ?_
    have t2 := h.1
    replace h := h.2
    have v3 := h.1
    replace h := h.2
    refine x_iald C hW t2 v3 dX12_cell_225 ?_
    refine lv_icmp_ge hx hb dX12_cell_226 (tgt := 320) rfl (fun hc => ?_) (fun hc => ?_)
    · replace h := h.1 hc
      exact t_X12_cell_320 C hr hK160 hS hW (hl.keep [true, true, false, false, true, true, true, true, true, true, false, false] rfl) h
    · replace h := h.2 hc
      refine x_aload_n C hl dX12_cell_229 rfl ?_
      refine x_get C hW (t := 12) (k := 9) t1 kl_12 (by decide) fl_X12_32 (v := rv b0 (mR σ l0 9)) rfl dX12_cell_230 ?_
      refine lv_bipush (v := (16 : Int32)) hx hb dX12_cell_233 (by decide) ?_
      refine x_iload C hl dX12_cell_235 rfl ?_
      refine lv_imul hx hb dX12_cell_237 ?_
      refine x_iload C hl dX12_cell_238 rfl ?_
      refine lv_iadd hx hb dX12_cell_240 ?_
      have t4 := h.1
      replace h := h.2
      have v5 := h.1
      replace h := h.2
      refine x_iald C hW t4 v5 dX12_cell_241 ?_
      refine lv_iconst (v := (5 : Int32)) hx hb dX12_cell_242 (by decide) ?_
      refine lv_icmp_eq hx hb dX12_cell_243 (tgt := 314) rfl (fun hc => ?_) (fun hc => ?_)
      · replace h := h.1 hc
        exact t_X12_cell_314 C hr hK160 hK217 hS hW (hl.keep [true, true, false, false, true, true, true, true, true, true, false, true] rfl) h
      · replace h := h.2 hc
        refine x_iload C hl dX12_cell_246 rfl ?_
        refine lv_iconst (v := (2 : Int32)) hx hb dX12_cell_248 (by decide) ?_
        refine lv_icmp_eq hx hb dX12_cell_249 (tgt := 273) rfl (fun hc => ?_) (fun hc => ?_)
        · replace h := h.1 hc
          exact t_X12_cell_273 C hr hK160 hK217 hS hW (hl.keep [true, true, false, false, true, true, true, true, true, true, false, true] rfl) h
        · replace h := h.2 hc
          refine x_aload_n C hl dX12_cell_252 rfl ?_
          refine x_get C hW (t := 12) (k := 15) t1 kl_12 (by decide) fl_X12_50 (v := rv b0 (mR σ l0 15)) rfl dX12_cell_253 ?_
          refine lv_bipush (v := (16 : Int32)) hx hb dX12_cell_256 (by decide) ?_
          refine x_iload C hl dX12_cell_258 rfl ?_
          refine lv_imul hx hb dX12_cell_260 ?_
          refine x_iload C hl dX12_cell_261 rfl ?_
          refine lv_iadd hx hb dX12_cell_263 ?_
          have t6 := h.1
          replace h := h.2
          have v7 := h.1
          replace h := h.2
          refine x_iald C hW t6 v7 dX12_cell_264 ?_
          refine x_iload C hl dX12_cell_265 rfl ?_
          refine lv_icmp_eq hx hb dX12_cell_267 (tgt := 273) rfl (fun hc => ?_) (fun hc => ?_)
          · replace h := h.1 hc
            exact t_X12_cell_273 C hr hK160 hK217 hS hW (hl.keep [true, true, false, false, true, true, true, true, true, true, false, true] rfl) h
          · replace h := h.2 hc
            refine lv_goto hx hb dX12_cell_270 (tgt := 314) rfl ?_
            exact t_X12_cell_314 C hr hK160 hK217 hS hW (hl.keep [true, true, false, false, true, true, true, true, true, true, false, true] rfl) h
set_option maxRecDepth 20000 in
set_option maxHeartbeats 4000000 in
theorem t_X12_cell_217 {p : Program} {l : Launch} {e : Env} {s : State} {m : MethodId} {args : Array Value} {below : List Frame} {meth : Method} {c : Code} {H : Heap} {locs : List Loc} {D : va_G} {tc : Nat → ClassId} {b0 : Nat} {ls : Array Slot} {G : Lay} {Qx : Int64 → Mem → Prop} {l0 : Nat} {l1 : Int32} {l4 : Int32} {l5 : Int32} {l6 : Int32} {l7 : Int32} {l8 : Int32} {l9 : Int32} {l11 : Int32}  {K160 : Int32 × Int32 × Mem → Prop} {σ : Mem} (C : Cx p s m args meth c cX12_cell RX12 12 D tc b0) (hr : meth.sig.returnType = (some FieldType.long)) (hK160 : ∀ (x8 : Int32) (x9 : Int32) (σ : Mem) (H : Heap) (locs : List Loc) (ls : Array Slot), va_S (AA b0) s.heap H locs → Wd G D tc b0 σ H → hL b0 ls 12 [some (.inr (.inr l0)), some (.inl l1), none, none, some (.inl l4), some (.inl l5), some (.inl l6), some (.inl l7), some (.inl x8), some (.inl x9), none, none] → K160 (x8, x9, σ) → W p l e rm_X12_cell s m args below meth c H locs 0 0 (MQ below (va_Ql Qx (fun u t => Pw G D tc b0 u t) (AA b0)) args s 0 0 (AA b0)) (F0 m 160 ls [])) (hS : va_S (AA b0) s.heap H locs) (hW : Wd G D tc b0 σ H) (hl : hL b0 ls 12 [some (.inr (.inr l0)), some (.inl l1), none, none, some (.inl l4), some (.inl l5), some (.inl l6), some (.inl l7), some (.inl l8), some (.inl l9), none, some (.inl l11)]) (h : X_X12_cell_217 G Qx K160 l0 l1 l4 l5 l6 l7 l8 l9 l11 σ) : W p l e rm_X12_cell s m args below meth c H locs 0 0 (MQ below (va_Ql Qx (fun u t => Pw G D tc b0 u t) (AA b0)) args s 0 0 (AA b0)) (F0 m 217 ls []) := by
  obtain ⟨n, h⟩ := h
  exact t_X12_cell_217_n C hr hK160 n l8 l11 σ H locs ls hS hW hl h
set_option maxRecDepth 20000 in
set_option maxHeartbeats 4000000 in
theorem t_X12_cell_204 {p : Program} {l : Launch} {e : Env} {s : State} {m : MethodId} {args : Array Value} {below : List Frame} {meth : Method} {c : Code} {H : Heap} {locs : List Loc} {D : va_G} {tc : Nat → ClassId} {b0 : Nat} {ls : Array Slot} {G : Lay} {Qx : Int64 → Mem → Prop} {l0 : Nat} {l1 : Int32} {l4 : Int32} {l5 : Int32} {l6 : Int32} {l7 : Int32} {l8 : Int32} {l9 : Int32} {k0 : Int32} {K160 : Int32 × Int32 × Mem → Prop} {σ : Mem} (C : Cx p s m args meth c cX12_cell RX12 12 D tc b0) (hr : meth.sig.returnType = (some FieldType.long)) (hK160 : ∀ (x8 : Int32) (x9 : Int32) (σ : Mem) (H : Heap) (locs : List Loc) (ls : Array Slot), va_S (AA b0) s.heap H locs → Wd G D tc b0 σ H → hL b0 ls 12 [some (.inr (.inr l0)), some (.inl l1), none, none, some (.inl l4), some (.inl l5), some (.inl l6), some (.inl l7), some (.inl x8), some (.inl x9), none, none] → K160 (x8, x9, σ) → W p l e rm_X12_cell s m args below meth c H locs 0 0 (MQ below (va_Ql Qx (fun u t => Pw G D tc b0 u t) (AA b0)) args s 0 0 (AA b0)) (F0 m 160 ls [])) (hS : va_S (AA b0) s.heap H locs) (hW : Wd G D tc b0 σ H) (hl : hL b0 ls 12 [some (.inr (.inr l0)), some (.inl l1), none, none, some (.inl l4), some (.inl l5), some (.inl l6), some (.inl l7), some (.inl l8), some (.inl l9), none, none]) (h : X_X12_cell_204 G Qx K160 l0 l1 l4 l5 l6 l7 l8 l9 k0 σ) : W p l e rm_X12_cell s m args below meth c H locs 0 0 (MQ below (va_Ql Qx (fun u t => Pw G D tc b0 u t) (AA b0)) args s 0 0 (AA b0)) (F0 m 204 ls [.int k0]) := by
  have hx := C.1
  have hb := C.2.1
  unfold X_X12_cell_204 at h
  refine x_istore C hl dX12_cell_204 (by decide) rfl (fun ls hl => ?_)
  refine x_iload C hl dX12_cell_206 rfl ?_
  refine lv_if_ne hx hb dX12_cell_208 (tgt := 214) rfl (fun hc => ?_) (fun hc => ?_)
  · replace h := h.2 hc
    refine lv_iconst (v := (0 : Int32)) hx hb dX12_cell_214 (by decide) ?_
    refine x_istore C hl dX12_cell_215 (by decide) rfl (fun ls hl => ?_)
    exact t_X12_cell_217 C hr hK160 hS hW (hl.keep [true, true, false, false, true, true, true, true, true, true, false, true] rfl) h
  · replace h := h.1 hc
    refine lv_goto hx hb dX12_cell_211 (tgt := 320) rfl ?_
    exact t_X12_cell_320 C hr hK160 hS hW (hl.keep [true, true, false, false, true, true, true, true, true, true, false, false] rfl) h
set_option maxRecDepth 20000 in
set_option maxHeartbeats 4000000 in
theorem t_X12_cell_160_n {p : Program} {l : Launch} {e : Env} {s : State} {m : MethodId} {args : Array Value} {below : List Frame} {meth : Method} {c : Code} {D : va_G} {tc : Nat → ClassId} {b0 : Nat} {G : Lay} {Qx : Int64 → Mem → Prop} {l0 : Nat} {l1 : Int32} {l4 : Int32} {l5 : Int32} {l6 : Int32} {l7 : Int32} (C : Cx p s m args meth c cX12_cell RX12 12 D tc b0) (hr : meth.sig.returnType = (some FieldType.long)) (n : Nat) : ∀ (l8 : Int32) (l9 : Int32) (σ : Mem) (H : Heap) (locs : List Loc) (ls : Array Slot), va_S (AA b0) s.heap H locs → Wd G D tc b0 σ H → hL b0 ls 12 [some (.inr (.inr l0)), some (.inl l1), none, none, some (.inl l4), some (.inl l5), some (.inl l6), some (.inl l7), some (.inl l8), some (.inl l9), none, none] → Lp (X_X12_cell_160_s G Qx l0 l1 l4 l5 l6 l7) n (l8, l9, σ) → W p l e rm_X12_cell s m args below meth c H locs 0 0 (MQ below (va_Ql Qx (fun u t => Pw G D tc b0 u t) (AA b0)) args s 0 0 (AA b0)) (F0 m 160 ls []) := by
  have hx := C.1
  have hb := C.2.1
  induction n with
  | zero => intro l8 l9 σ H locs ls hS hW hl h; exact False.elim h
  | succ n hK160 =>
    intro l8 l9 σ H locs ls hS hW hl h
    replace h : X_X12_cell_160_s G Qx l0 l1 l4 l5 l6 l7 (Lp (X_X12_cell_160_s G Qx l0 l1 l4 l5 l6 l7) n) (l8, l9, σ) := h
    unfold X_X12_cell_160_s at h
    refine x_iload C hl dX12_cell_160 rfl ?_
    refine x_aload_n C hl dX12_cell_162 rfl ?_
    have t1 := h.1
    replace h := h.2
    refine x_get C hW (t := 12) (k := 2) t1 kl_12 (by decide) fl_X12_341 (v := .int (mI σ l0 2)) rfl dX12_cell_163 ?_
    refine lv_icmp_ge hx hb dX12_cell_166 (tgt := 326) rfl (fun hc => ?_) (fun hc => ?_)
    · replace h := h.1 hc
      refine lv_ldc2 (own := RX12) (v := (-9223372036854775808 : Int64)) hx hb C.2.2.2.1 (C.2.2.2.2.1 _ (gc8 230 rfl rfl)) dX12_cell_326 ?_
      exact r_l C hr hW hS h dX12_cell_329
    · replace h := h.2 hc
      refine x_iload C hl dX12_cell_169 rfl ?_
      refine lv_if_ne hx hb dX12_cell_171 (tgt := 193) rfl (fun hc => ?_) (fun hc => ?_)
      · replace h := h.2 hc
        refine x_iload C hl dX12_cell_193 rfl ?_
        refine x_iload_n C hl dX12_cell_195 rfl ?_
        refine lv_icmp_ne hx hb dX12_cell_196 (tgt := 203) rfl (fun hc => ?_) (fun hc => ?_)
        · replace h := h.2 hc
          refine lv_iconst (v := (0 : Int32)) hx hb dX12_cell_203 (by decide) ?_
          exact t_X12_cell_204 C hr hK160 hS hW (hl.keep [true, true, false, false, true, true, true, true, true, true, false, false] rfl) h
        · replace h := h.1 hc
          refine lv_iconst (v := (1 : Int32)) hx hb dX12_cell_199 (by decide) ?_
          refine lv_goto hx hb dX12_cell_200 (tgt := 204) rfl ?_
          exact t_X12_cell_204 C hr hK160 hS hW (hl.keep [true, true, false, false, true, true, true, true, true, true, false, false] rfl) h
      · replace h := h.1 hc
        refine x_aload_n C hl dX12_cell_174 rfl ?_
        refine x_iload C hl dX12_cell_175 rfl ?_
        refine y_i (x_run (As := [.int l9]) C hW hS (T_X12_rootOf l l0 l9 σ _ h) t1 kl_12 (CW.of yv_X12_rootOf ml_X12_353) ⟨rfl, rfl, ⟨by decide, by decide⟩, by decide, by decide⟩ rfl hl.1 rfl (by decide) dX12_cell_177) hS (fun w3 s2 H locs h hW hS => ?_)
        refine x_iload C hl dX12_cell_180 rfl ?_
        refine lv_icmp_ne hx hb dX12_cell_182 (tgt := 189) rfl (fun hc => ?_) (fun hc => ?_)
        · replace h := h.2 hc
          refine lv_iconst (v := (0 : Int32)) hx hb dX12_cell_189 (by decide) ?_
          refine lv_goto hx hb dX12_cell_190 (tgt := 204) rfl ?_
          exact t_X12_cell_204 C hr hK160 hS hW (hl.keep [true, true, false, false, true, true, true, true, true, true, false, false] rfl) h
        · replace h := h.1 hc
          refine lv_iconst (v := (1 : Int32)) hx hb dX12_cell_185 (by decide) ?_
          refine lv_goto hx hb dX12_cell_186 (tgt := 204) rfl ?_
          exact t_X12_cell_204 C hr hK160 hS hW (hl.keep [true, true, false, false, true, true, true, true, true, true, false, false] rfl) h
set_option maxRecDepth 20000 in
set_option maxHeartbeats 4000000 in
theorem t_X12_cell_160 {p : Program} {l : Launch} {e : Env} {s : State} {m : MethodId} {args : Array Value} {below : List Frame} {meth : Method} {c : Code} {H : Heap} {locs : List Loc} {D : va_G} {tc : Nat → ClassId} {b0 : Nat} {ls : Array Slot} {G : Lay} {Qx : Int64 → Mem → Prop} {l0 : Nat} {l1 : Int32} {l4 : Int32} {l5 : Int32} {l6 : Int32} {l7 : Int32} {l8 : Int32} {l9 : Int32}  {σ : Mem} (C : Cx p s m args meth c cX12_cell RX12 12 D tc b0) (hr : meth.sig.returnType = (some FieldType.long)) (hS : va_S (AA b0) s.heap H locs) (hW : Wd G D tc b0 σ H) (hl : hL b0 ls 12 [some (.inr (.inr l0)), some (.inl l1), none, none, some (.inl l4), some (.inl l5), some (.inl l6), some (.inl l7), some (.inl l8), some (.inl l9), none, none]) (h : X_X12_cell_160 G Qx l0 l1 l4 l5 l6 l7 l8 l9 σ) : W p l e rm_X12_cell s m args below meth c H locs 0 0 (MQ below (va_Ql Qx (fun u t => Pw G D tc b0 u t) (AA b0)) args s 0 0 (AA b0)) (F0 m 160 ls []) := by
  obtain ⟨n, h⟩ := h
  exact t_X12_cell_160_n C hr n l8 l9 σ H locs ls hS hW hl h
set_option maxRecDepth 20000 in
set_option maxHeartbeats 4000000 in
theorem t_X12_cell_157 {p : Program} {l : Launch} {e : Env} {s : State} {m : MethodId} {args : Array Value} {below : List Frame} {meth : Method} {c : Code} {H : Heap} {locs : List Loc} {D : va_G} {tc : Nat → ClassId} {b0 : Nat} {ls : Array Slot} {G : Lay} {Qx : Int64 → Mem → Prop} {l0 : Nat} {l1 : Int32} {l4 : Int32} {l5 : Int32} {l6 : Int32} {l7 : Int32} {l8 : Int32}  {σ : Mem} (C : Cx p s m args meth c cX12_cell RX12 12 D tc b0) (hr : meth.sig.returnType = (some FieldType.long)) (hS : va_S (AA b0) s.heap H locs) (hW : Wd G D tc b0 σ H) (hl : hL b0 ls 12 [some (.inr (.inr l0)), some (.inl l1), none, none, some (.inl l4), some (.inl l5), some (.inl l6), some (.inl l7), some (.inl l8), none, none, none]) (h : X_X12_cell_157 G Qx l0 l1 l4 l5 l6 l7 l8  σ) : W p l e rm_X12_cell s m args below meth c H locs 0 0 (MQ below (va_Ql Qx (fun u t => Pw G D tc b0 u t) (AA b0)) args s 0 0 (AA b0)) (F0 m 157 ls []) := by
  have hx := C.1
  have hb := C.2.1
  unfold X_X12_cell_157 at h
  refine lv_iconst (v := (0 : Int32)) hx hb dX12_cell_157 (by decide) ?_
  refine x_istore C hl dX12_cell_158 (by decide) rfl (fun ls hl => ?_)
  exact t_X12_cell_160 C hr hS hW (hl.keep [true, true, false, false, true, true, true, true, true, true, false, false] rfl) h
set_option maxRecDepth 20000 in
set_option maxHeartbeats 4000000 in
theorem t_X12_cell_136 {p : Program} {l : Launch} {e : Env} {s : State} {m : MethodId} {args : Array Value} {below : List Frame} {meth : Method} {c : Code} {H : Heap} {locs : List Loc} {D : va_G} {tc : Nat → ClassId} {b0 : Nat} {ls : Array Slot} {G : Lay} {Qx : Int64 → Mem → Prop} {l0 : Nat} {l1 : Int32} {l4 : Int32} {l5 : Int32} {l6 : Int32} {l7 : Int32} {l8 : Int32}  {σ : Mem} (C : Cx p s m args meth c cX12_cell RX12 12 D tc b0) (hr : meth.sig.returnType = (some FieldType.long)) (hS : va_S (AA b0) s.heap H locs) (hW : Wd G D tc b0 σ H) (hl : hL b0 ls 12 [some (.inr (.inr l0)), some (.inl l1), none, none, some (.inl l4), some (.inl l5), some (.inl l6), some (.inl l7), some (.inl l8), none, none, none]) (h : X_X12_cell_136 G Qx l0 l1 l4 l5 l6 l7 l8  σ) : W p l e rm_X12_cell s m args below meth c H locs 0 0 (MQ below (va_Ql Qx (fun u t => Pw G D tc b0 u t) (AA b0)) args s 0 0 (AA b0)) (F0 m 136 ls []) := by
  have hx := C.1
  have hb := C.2.1
  unfold X_X12_cell_136 at h
  refine x_iload C hl dX12_cell_136 rfl ?_
  refine lv_iconst (v := (1 : Int32)) hx hb dX12_cell_138 (by decide) ?_
  refine lv_icmp_ne hx hb dX12_cell_139 (tgt := 157) rfl (fun hc => ?_) (fun hc => ?_)
  · replace h := h.2 hc
    exact t_X12_cell_157 C hr hS hW (hl.keep [true, true, false, false, true, true, true, true, true, false, false, false] rfl) h
  · replace h := h.1 hc
    refine x_aload_n C hl dX12_cell_142 rfl ?_
    refine lv_iconst (v := (0 : Int32)) hx hb dX12_cell_143 (by decide) ?_
    refine x_iload C hl dX12_cell_144 rfl ?_
    refine x_iload_n C hl dX12_cell_146 rfl ?_
    have t1 := h.1
    replace h := h.2
    refine y_i (x_run (As := [.int (0 : Int32), .int l7, .int l1]) C hW hS (T_X12_isA l l0 (0 : Int32) l7 l1 σ _ h) t1 kl_12 (CW.of yv_X12_isA ml_X12_315) ⟨rfl, rfl, ⟨by decide, by decide⟩, by decide, by decide⟩ rfl hl.1 rfl (by decide) dX12_cell_147) hS (fun w3 s2 H locs h hW hS => ?_)
    refine lv_if_ne hx hb dX12_cell_150 (tgt := 157) rfl (fun hc => ?_) (fun hc => ?_)
    · replace h := h.2 hc
      exact t_X12_cell_157 C hr hS hW (hl.keep [true, true, false, false, true, true, true, true, true, false, false, false] rfl) h
    · replace h := h.1 hc
      refine lv_ldc2 (own := RX12) (v := (-9223372036854775808 : Int64)) hx hb C.2.2.2.1 (C.2.2.2.2.1 _ (gc8 230 rfl rfl)) dX12_cell_153 ?_
      exact r_l C hr hW hS h dX12_cell_156
set_option maxRecDepth 20000 in
set_option maxHeartbeats 4000000 in
theorem t_X12_cell_109 {p : Program} {l : Launch} {e : Env} {s : State} {m : MethodId} {args : Array Value} {below : List Frame} {meth : Method} {c : Code} {H : Heap} {locs : List Loc} {D : va_G} {tc : Nat → ClassId} {b0 : Nat} {ls : Array Slot} {G : Lay} {Qx : Int64 → Mem → Prop} {l0 : Nat} {l1 : Int32} {l4 : Int32} {l5 : Int32} {l6 : Int32} {l7 : Int32} {l8 : Int32}  {σ : Mem} (C : Cx p s m args meth c cX12_cell RX12 12 D tc b0) (hr : meth.sig.returnType = (some FieldType.long)) (hS : va_S (AA b0) s.heap H locs) (hW : Wd G D tc b0 σ H) (hl : hL b0 ls 12 [some (.inr (.inr l0)), some (.inl l1), none, none, some (.inl l4), some (.inl l5), some (.inl l6), some (.inl l7), some (.inl l8), none, none, none]) (h : X_X12_cell_109 G Qx l0 l1 l4 l5 l6 l7 l8  σ) : W p l e rm_X12_cell s m args below meth c H locs 0 0 (MQ below (va_Ql Qx (fun u t => Pw G D tc b0 u t) (AA b0)) args s 0 0 (AA b0)) (F0 m 109 ls []) := by
  have hx := C.1
  have hb := C.2.1
  unfold X_X12_cell_109 at h
  refine x_iload C hl dX12_cell_109 rfl ?_
  refine lv_if_ne hx hb dX12_cell_111 (tgt := 118) rfl (fun hc => ?_) (fun hc => ?_)
  · replace h := h.2 hc
    refine x_iload C hl dX12_cell_118 rfl ?_
    refine lv_iconst (v := (1 : Int32)) hx hb dX12_cell_120 (by decide) ?_
    refine lv_icmp_ne hx hb dX12_cell_121 (tgt := 133) rfl (fun hc => ?_) (fun hc => ?_)
    · replace h := h.2 hc
      refine x_iinc C hl dX12_cell_133 rfl (v := (-2 : Int32)) (by decide) (by decide) rfl (fun ls hl => ?_)
      exact t_X12_cell_136 C hr hS hW (hl.keep [true, true, false, false, true, true, true, true, true, false, false, false] rfl) h
    · replace h := h.1 hc
      refine x_aload_n C hl dX12_cell_124 rfl ?_
      have t1 := h.1
      replace h := h.2
      refine x_get C hW (t := 12) (k := 30) t1 kl_12 (by decide) fl_X12_86 (v := rv b0 (mR σ l0 30)) rfl dX12_cell_125 ?_
      refine x_iload C hl dX12_cell_128 rfl ?_
      have t2 := h.1
      replace h := h.2
      have v3 := h.1
      replace h := h.2
      refine x_iald C hW t2 v3 dX12_cell_130 ?_
      refine lv_i2l hx hb dX12_cell_131 rfl ?_
      exact r_l C hr hW hS h dX12_cell_132
  · replace h := h.1 hc
    refine x_iload C hl dX12_cell_114 rfl ?_
    refine lv_i2l hx hb dX12_cell_116 rfl ?_
    exact r_l C hr hW hS h dX12_cell_117
set_option maxRecDepth 20000 in
set_option maxHeartbeats 4000000 in
theorem t_X12_cell_0 {p : Program} {l : Launch} {e : Env} {s : State} {m : MethodId} {args : Array Value} {below : List Frame} {meth : Method} {c : Code} {H : Heap} {locs : List Loc} {D : va_G} {tc : Nat → ClassId} {b0 : Nat} {ls : Array Slot} {G : Lay} {Qx : Int64 → Mem → Prop} {l0 : Nat} {l1 : Int32} {l2 : Int32} {l3 : Int32}  {σ : Mem} (C : Cx p s m args meth c cX12_cell RX12 12 D tc b0) (hr : meth.sig.returnType = (some FieldType.long)) (hS : va_S (AA b0) s.heap H locs) (hW : Wd G D tc b0 σ H) (hl : hL b0 ls 12 [some (.inr (.inr l0)), some (.inl l1), some (.inl l2), some (.inl l3), none, none, none, none, none, none, none, none]) (h : X_X12_cell_0 G Qx l0 l1 l2 l3  σ) : W p l e rm_X12_cell s m args below meth c H locs 0 0 (MQ below (va_Ql Qx (fun u t => Pw G D tc b0 u t) (AA b0)) args s 0 0 (AA b0)) (F0 m 0 ls []) := by
  have hx := C.1
  have hb := C.2.1
  unfold X_X12_cell_0 at h
  refine x_aload_n C hl dX12_cell_0 rfl ?_
  refine x_iload_n C hl dX12_cell_1 rfl ?_
  have t1 := h.1
  replace h := h.2
  refine y_i (x_run (As := [.int l1]) C hW hS (T_X12_isClass l l0 l1 σ _ h) t1 kl_12 (CW.of yv_X12_isClass ml_X12_350) ⟨rfl, rfl, ⟨by decide, by decide⟩, by decide, by decide⟩ rfl hl.1 rfl (by decide) dX12_cell_2) hS (fun w3 s2 H locs h hW hS => ?_)
  refine lv_if_eq hx hb dX12_cell_5 (tgt := 12) rfl (fun hc => ?_) (fun hc => ?_)
  · replace h := h.1 hc
    exact t_X12_cell_12 C hr hS hW (hl.keep [false, false, false, false, false, false, false, false, false, false, false, false] rfl) h
  · replace h := h.2 hc
    refine x_iload_n C hl dX12_cell_8 rfl ?_
    refine lv_if_ge hx hb dX12_cell_9 (tgt := 16) rfl (fun hc => ?_) (fun hc => ?_)
    · replace h := h.1 hc
      refine x_aload_n C hl dX12_cell_16 rfl ?_
      refine x_iload_n C hl dX12_cell_17 rfl ?_
      refine y_i (x_run (As := [.int l1]) C hW hS (T_X12_rootOf l l0 l1 s2 _ h) t1 kl_12 (CW.of yv_X12_rootOf ml_X12_353) ⟨rfl, rfl, ⟨by decide, by decide⟩, by decide, by decide⟩ rfl hl.1 rfl (by decide) dX12_cell_18) hS (fun w5 s4 H locs h hW hS => ?_)
      refine x_istore C hl dX12_cell_21 (by decide) rfl (fun ls hl => ?_)
      refine x_aload_n C hl dX12_cell_23 rfl ?_
      refine x_iload C hl dX12_cell_24 rfl ?_
      refine x_iload_n C hl dX12_cell_26 rfl ?_
      refine y_i (x_run (As := [.int w5, .int l2]) C hW hS (T_X12_rowOf l l0 w5 l2 s4 _ h) t1 kl_12 (CW.of yv_X12_rowOf ml_X12_369) ⟨rfl, rfl, ⟨by decide, by decide⟩, by decide, by decide⟩ rfl hl.1 rfl (by decide) dX12_cell_27) hS (fun w7 s6 H locs h hW hS => ?_)
      refine x_istore C hl dX12_cell_30 (by decide) rfl (fun ls hl => ?_)
      refine x_iload C hl dX12_cell_32 rfl ?_
      refine lv_if_ge hx hb dX12_cell_34 (tgt := 41) rfl (fun hc => ?_) (fun hc => ?_)
      · replace h := h.1 hc
        refine x_aload_n C hl dX12_cell_41 rfl ?_
        refine x_get C hW (t := 12) (k := 5) t1 kl_12 (by decide) fl_X12_20 (v := rv b0 (mR s6 l0 5)) rfl dX12_cell_42 ?_
        refine x_iload C hl dX12_cell_45 rfl ?_
        have t8 := h.1
        replace h := h.2
        have v9 := h.1
        replace h := h.2
        refine x_iald C hW t8 v9 dX12_cell_47 ?_
        refine x_istore C hl dX12_cell_48 (by decide) rfl (fun ls hl => ?_)
        refine x_aload_n C hl dX12_cell_50 rfl ?_
        refine x_get C hW (t := 12) (k := 29) t1 kl_12 (by decide) fl_X12_83 (v := rv b0 (mR s6 l0 29)) rfl dX12_cell_51 ?_
        refine x_iload C hl dX12_cell_54 rfl ?_
        have t10 := h.1
        replace h := h.2
        have v11 := h.1
        replace h := h.2
        refine x_iald C hW t10 v11 dX12_cell_56 ?_
        refine x_istore C hl dX12_cell_57 (by decide) rfl (fun ls hl => ?_)
        refine x_iload_n C hl dX12_cell_59 rfl ?_
        refine x_istore C hl dX12_cell_60 (by decide) rfl (fun ls hl => ?_)
        refine x_iload C hl dX12_cell_62 rfl ?_
        refine lv_iconst (v := (2 : Int32)) hx hb dX12_cell_64 (by decide) ?_
        refine lv_icmp_ne hx hb dX12_cell_65 (tgt := 98) rfl (fun hc => ?_) (fun hc => ?_)
        · replace h := h.2 hc
          refine x_iload C hl dX12_cell_98 rfl ?_
          refine lv_if_eq hx hb dX12_cell_100 (tgt := 109) rfl (fun hc => ?_) (fun hc => ?_)
          · replace h := h.1 hc
            exact t_X12_cell_109 C hr hS hW (hl.keep [true, true, false, false, true, true, true, true, true, false, false, false] rfl) h
          · replace h := h.2 hc
            refine x_iload_n C hl dX12_cell_103 rfl ?_
            refine x_iload C hl dX12_cell_104 rfl ?_
            refine lv_icmp_ne hx hb dX12_cell_106 (tgt := 136) rfl (fun hc => ?_) (fun hc => ?_)
            · replace h := h.2 hc
              exact t_X12_cell_136 C hr hS hW (hl.keep [true, true, false, false, true, true, true, true, true, false, false, false] rfl) h
            · replace h := h.1 hc
              exact t_X12_cell_109 C hr hS hW (hl.keep [true, true, false, false, true, true, true, true, true, false, false, false] rfl) h
        · replace h := h.1 hc
          refine x_iload C hl dX12_cell_68 rfl ?_
          refine x_iload_n C hl dX12_cell_70 rfl ?_
          refine lv_icmp_eq hx hb dX12_cell_71 (tgt := 78) rfl (fun hc => ?_) (fun hc => ?_)
          · replace h := h.1 hc
            refine x_iload C hl dX12_cell_78 rfl ?_
            refine lv_if_ne hx hb dX12_cell_80 (tgt := 92) rfl (fun hc => ?_) (fun hc => ?_)
            · replace h := h.2 hc
              refine x_iinc C hl dX12_cell_92 rfl (v := (-1 : Int32)) (by decide) (by decide) rfl (fun ls hl => ?_)
              refine lv_goto hx hb dX12_cell_95 (tgt := 136) rfl ?_
              exact t_X12_cell_136 C hr hS hW (hl.keep [true, true, false, false, true, true, true, true, true, false, false, false] rfl) h
            · replace h := h.1 hc
              refine x_aload_n C hl dX12_cell_83 rfl ?_
              refine x_get C hW (t := 12) (k := 30) t1 kl_12 (by decide) fl_X12_86 (v := rv b0 (mR s6 l0 30)) rfl dX12_cell_84 ?_
              refine x_iload C hl dX12_cell_87 rfl ?_
              have t12 := h.1
              replace h := h.2
              have v13 := h.1
              replace h := h.2
              refine x_iald C hW t12 v13 dX12_cell_89 ?_
              refine lv_i2l hx hb dX12_cell_90 rfl ?_
              exact r_l C hr hW hS h dX12_cell_91
          · replace h := h.2 hc
            refine lv_ldc2 (own := RX12) (v := (-9223372036854775808 : Int64)) hx hb C.2.2.2.1 (C.2.2.2.2.1 _ (gc8 230 rfl rfl)) dX12_cell_74 ?_
            exact r_l C hr hW hS h dX12_cell_77
      · replace h := h.2 hc
        refine lv_ldc2 (own := RX12) (v := (-9223372036854775808 : Int64)) hx hb C.2.2.2.1 (C.2.2.2.2.1 _ (gc8 230 rfl rfl)) dX12_cell_37 ?_
        exact r_l C hr hW hS h dX12_cell_40
    · replace h := h.2 hc
      exact t_X12_cell_12 C hr hS hW (hl.keep [false, false, false, false, false, false, false, false, false, false, false, false] rfl) h
theorem T_X12_cell (l : Launch) {G : Lay} {D : va_G} {tc : Nat → ClassId} {b0 : Nat} (l0 : Nat) (l1 : Int32) (l2 : Int32) (l3 : Int32) (σ : Mem) (Qx : Int64 → Mem → Prop) (h : X_X12_cell G Qx l0 l1 l2 l3 σ) : ML l yX12_cell cX12_cell 12 ((some FieldType.long)) rm_X12_cell G D tc b0 [rv b0 l0, .int l1, .int l2, .int l3] σ Qx :=
  x_entry (y := yX12_cell) [.inr (.inr l0), .inl l1, .inl l2, .inl l3] 8 (by decide) (Nat.le_of_ble_eq_true rfl) (fun p e s m args below meth c ls C hr hW hl => t_X12_cell_0 C hr va_S.rf hW (hl.keep [true, true, true, true, false, false, false, false, false, false, false, false] rfl) h)
/-! X12_does -/
set_option maxRecDepth 20000 in
set_option maxHeartbeats 4000000 in
theorem t_X12_does_0 {p : Program} {l : Launch} {e : Env} {s : State} {m : MethodId} {args : Array Value} {below : List Frame} {meth : Method} {c : Code} {H : Heap} {locs : List Loc} {D : va_G} {tc : Nat → ClassId} {b0 : Nat} {ls : Array Slot} {G : Lay} {Qx : Mem → Prop} {l0 : Nat} {l1 : Int32} {l2 : Int32} {l3 : Int32} {l4 : Int32} {l5 : Int32}  {σ : Mem} (C : Cx p s m args meth c cX12_does RX12 6 D tc b0) (hr : meth.sig.returnType = (none : Option FieldType)) (hS : va_S (AA b0) s.heap H locs) (hW : Wd G D tc b0 σ H) (hl : hL b0 ls 6 [some (.inr (.inr l0)), some (.inl l1), some (.inl l2), some (.inl l3), some (.inl l4), some (.inl l5)]) (h : X_X12_does_0 G Qx l0 l1 l2 l3 l4 l5  σ) : W p l e rm_X12_does s m args below meth c H locs 0 0 (MQ below (va_Qv Qx (fun u t => Pw G D tc b0 u t) (AA b0)) args s 0 0 (AA b0)) (F0 m 0 ls []) := by
  have hx := C.1
  have hb := C.2.1
  unfold X_X12_does_0 at h
  refine x_aload_n C hl dX12_does_0 rfl ?_
  have t1 := h.1
  replace h := h.2
  refine x_get C hW (t := 12) (k := 81) t1 kl_12 (by decide) fl_X12_196 (v := rv b0 (mR σ l0 81)) rfl dX12_does_1 ?_
  refine x_aload_n C hl dX12_does_4 rfl ?_
  refine x_get C hW (t := 12) (k := 80) t1 kl_12 (by decide) fl_X12_497 (v := .int (mI σ l0 80)) rfl dX12_does_5 ?_
  refine x_iload_n C hl dX12_does_8 rfl ?_
  have t2 := h.1
  replace h := h.2
  have v3 := h.1
  replace h := h.2
  refine x_iast C hW hS t2 v3 dX12_does_9 (fun H locs hW hS => ?_)
  obtain ⟨s4, e_s4⟩ : ∃ z : Mem, z = (sI σ (mR σ l0 81) (mI σ l0 80).toNatClampNeg l1) := ⟨_, rfl⟩
  replace h := h s4 e_s4
  replace hW : Wd G D tc b0 s4 H := by rw [e_s4]; exact hW
  refine x_aload_n C hl dX12_does_10 rfl ?_
  refine x_get C hW (t := 12) (k := 82) t1 kl_12 (by decide) fl_X12_199 (v := rv b0 (mR s4 l0 82)) rfl dX12_does_11 ?_
  refine x_aload_n C hl dX12_does_14 rfl ?_
  refine x_get C hW (t := 12) (k := 80) t1 kl_12 (by decide) fl_X12_497 (v := .int (mI s4 l0 80)) rfl dX12_does_15 ?_
  refine x_iload_n C hl dX12_does_18 rfl ?_
  have t5 := h.1
  replace h := h.2
  have v6 := h.1
  replace h := h.2
  refine x_iast C hW hS t5 v6 dX12_does_19 (fun H locs hW hS => ?_)
  obtain ⟨s7, e_s7⟩ : ∃ z : Mem, z = (sI s4 (mR s4 l0 82) (mI s4 l0 80).toNatClampNeg l2) := ⟨_, rfl⟩
  replace h := h s7 e_s7
  replace hW : Wd G D tc b0 s7 H := by rw [e_s7]; exact hW
  refine x_aload_n C hl dX12_does_20 rfl ?_
  refine x_get C hW (t := 12) (k := 83) t1 kl_12 (by decide) fl_X12_202 (v := rv b0 (mR s7 l0 83)) rfl dX12_does_21 ?_
  refine x_aload_n C hl dX12_does_24 rfl ?_
  refine x_get C hW (t := 12) (k := 80) t1 kl_12 (by decide) fl_X12_497 (v := .int (mI s7 l0 80)) rfl dX12_does_25 ?_
  refine x_iload_n C hl dX12_does_28 rfl ?_
  have t8 := h.1
  replace h := h.2
  have v9 := h.1
  replace h := h.2
  refine x_iast C hW hS t8 v9 dX12_does_29 (fun H locs hW hS => ?_)
  obtain ⟨s10, e_s10⟩ : ∃ z : Mem, z = (sI s7 (mR s7 l0 83) (mI s7 l0 80).toNatClampNeg l3) := ⟨_, rfl⟩
  replace h := h s10 e_s10
  replace hW : Wd G D tc b0 s10 H := by rw [e_s10]; exact hW
  refine x_aload_n C hl dX12_does_30 rfl ?_
  refine x_get C hW (t := 12) (k := 84) t1 kl_12 (by decide) fl_X12_205 (v := rv b0 (mR s10 l0 84)) rfl dX12_does_31 ?_
  refine x_aload_n C hl dX12_does_34 rfl ?_
  refine x_get C hW (t := 12) (k := 80) t1 kl_12 (by decide) fl_X12_497 (v := .int (mI s10 l0 80)) rfl dX12_does_35 ?_
  refine x_iload C hl dX12_does_38 rfl ?_
  have t11 := h.1
  replace h := h.2
  have v12 := h.1
  replace h := h.2
  refine x_iast C hW hS t11 v12 dX12_does_40 (fun H locs hW hS => ?_)
  obtain ⟨s13, e_s13⟩ : ∃ z : Mem, z = (sI s10 (mR s10 l0 84) (mI s10 l0 80).toNatClampNeg l4) := ⟨_, rfl⟩
  replace h := h s13 e_s13
  replace hW : Wd G D tc b0 s13 H := by rw [e_s13]; exact hW
  refine x_aload_n C hl dX12_does_41 rfl ?_
  refine x_get C hW (t := 12) (k := 85) t1 kl_12 (by decide) fl_X12_208 (v := rv b0 (mR s13 l0 85)) rfl dX12_does_42 ?_
  refine x_aload_n C hl dX12_does_45 rfl ?_
  refine x_get C hW (t := 12) (k := 80) t1 kl_12 (by decide) fl_X12_497 (v := .int (mI s13 l0 80)) rfl dX12_does_46 ?_
  refine x_iload C hl dX12_does_49 rfl ?_
  have t14 := h.1
  replace h := h.2
  have v15 := h.1
  replace h := h.2
  refine x_iast C hW hS t14 v15 dX12_does_51 (fun H locs hW hS => ?_)
  obtain ⟨s16, e_s16⟩ : ∃ z : Mem, z = (sI s13 (mR s13 l0 85) (mI s13 l0 80).toNatClampNeg l5) := ⟨_, rfl⟩
  replace h := h s16 e_s16
  replace hW : Wd G D tc b0 s16 H := by rw [e_s16]; exact hW
  refine x_aload_n C hl dX12_does_52 rfl ?_
  refine lv_dup hx hb dX12_does_53 (rv_cat _ _) ?_
  refine x_get C hW (t := 12) (k := 80) t1 kl_12 (by decide) fl_X12_497 (v := .int (mI s16 l0 80)) rfl dX12_does_54 ?_
  refine lv_iconst (v := (1 : Int32)) hx hb dX12_does_57 (by decide) ?_
  refine lv_iadd hx hb dX12_does_58 ?_
  refine x_putI C hW hS (t := 12) (k := 80) t1 kl_12 (by decide) fl_X12_497 rfl rfl rfl rfl dX12_does_59 (fun H locs hW hS => ?_)
  obtain ⟨s17, e_s17⟩ : ∃ z : Mem, z = (sI s16 l0 80 ((mI s16 l0 80) + (1 : Int32))) := ⟨_, rfl⟩
  replace h := h s17 e_s17
  replace hW : Wd G D tc b0 s17 H := by rw [e_s17]; exact hW
  exact r_v C hr hW hS h dX12_does_62
theorem T_X12_does (l : Launch) {G : Lay} {D : va_G} {tc : Nat → ClassId} {b0 : Nat} (l0 : Nat) (l1 : Int32) (l2 : Int32) (l3 : Int32) (l4 : Int32) (l5 : Int32) (σ : Mem) (Qx : Mem → Prop) (h : X_X12_does G Qx l0 l1 l2 l3 l4 l5 σ) : MV l yX12_does cX12_does 6 ((none : Option FieldType)) rm_X12_does G D tc b0 [rv b0 l0, .int l1, .int l2, .int l3, .int l4, .int l5] σ Qx :=
  x_entry (y := yX12_does) [.inr (.inr l0), .inl l1, .inl l2, .inl l3, .inl l4, .inl l5] 0 (by decide) (Nat.le_of_ble_eq_true rfl) (fun p e s m args below meth c ls C hr hW hl => t_X12_does_0 C hr va_S.rf hW (hl.keep [true, true, true, true, true, true] rfl) h)
/-! X12_isWaiting -/
set_option maxRecDepth 20000 in
set_option maxHeartbeats 4000000 in
theorem t_X12_isWaiting_27 {p : Program} {l : Launch} {e : Env} {s : State} {m : MethodId} {args : Array Value} {below : List Frame} {meth : Method} {c : Code} {H : Heap} {locs : List Loc} {D : va_G} {tc : Nat → ClassId} {b0 : Nat} {ls : Array Slot} {G : Lay} {Qx : Int32 → Mem → Prop}  {k0 : Int32} {σ : Mem} (C : Cx p s m args meth c cX12_isWaiting RX12 2 D tc b0) (hr : meth.sig.returnType = (some FieldType.boolean)) (hS : va_S (AA b0) s.heap H locs) (hW : Wd G D tc b0 σ H) (hl : hL b0 ls 2 [none, none]) (h : X_X12_isWaiting_27 G Qx  k0 σ) : W p l e rm_X12_isWaiting s m args below meth c H locs 0 0 (MQ below (va_Qi Qx (fun u t => Pw G D tc b0 u t) (AA b0)) args s 0 0 (AA b0)) (F0 m 27 ls [.int k0]) := by
  have hx := C.1
  have hb := C.2.1
  unfold X_X12_isWaiting_27 at h
  exact r_z C hr hW hS h.1 h.2 dX12_isWaiting_27
set_option maxRecDepth 20000 in
set_option maxHeartbeats 4000000 in
theorem t_X12_isWaiting_26 {p : Program} {l : Launch} {e : Env} {s : State} {m : MethodId} {args : Array Value} {below : List Frame} {meth : Method} {c : Code} {H : Heap} {locs : List Loc} {D : va_G} {tc : Nat → ClassId} {b0 : Nat} {ls : Array Slot} {G : Lay} {Qx : Int32 → Mem → Prop}   {σ : Mem} (C : Cx p s m args meth c cX12_isWaiting RX12 2 D tc b0) (hr : meth.sig.returnType = (some FieldType.boolean)) (hS : va_S (AA b0) s.heap H locs) (hW : Wd G D tc b0 σ H) (hl : hL b0 ls 2 [none, none]) (h : X_X12_isWaiting_26 G Qx   σ) : W p l e rm_X12_isWaiting s m args below meth c H locs 0 0 (MQ below (va_Qi Qx (fun u t => Pw G D tc b0 u t) (AA b0)) args s 0 0 (AA b0)) (F0 m 26 ls []) := by
  have hx := C.1
  have hb := C.2.1
  unfold X_X12_isWaiting_26 at h
  refine lv_iconst (v := (0 : Int32)) hx hb dX12_isWaiting_26 (by decide) ?_
  exact t_X12_isWaiting_27 C hr hS hW (hl.keep [false, false] rfl) h
set_option maxRecDepth 20000 in
set_option maxHeartbeats 4000000 in
theorem t_X12_isWaiting_0 {p : Program} {l : Launch} {e : Env} {s : State} {m : MethodId} {args : Array Value} {below : List Frame} {meth : Method} {c : Code} {H : Heap} {locs : List Loc} {D : va_G} {tc : Nat → ClassId} {b0 : Nat} {ls : Array Slot} {G : Lay} {Qx : Int32 → Mem → Prop} {l0 : Nat} {l1 : Int32}  {σ : Mem} (C : Cx p s m args meth c cX12_isWaiting RX12 2 D tc b0) (hr : meth.sig.returnType = (some FieldType.boolean)) (hS : va_S (AA b0) s.heap H locs) (hW : Wd G D tc b0 σ H) (hl : hL b0 ls 2 [some (.inr (.inr l0)), some (.inl l1)]) (h : X_X12_isWaiting_0 G Qx l0 l1  σ) : W p l e rm_X12_isWaiting s m args below meth c H locs 0 0 (MQ below (va_Qi Qx (fun u t => Pw G D tc b0 u t) (AA b0)) args s 0 0 (AA b0)) (F0 m 0 ls []) := by
  have hx := C.1
  have hb := C.2.1
  unfold X_X12_isWaiting_0 at h
  refine x_aload_n C hl dX12_isWaiting_0 rfl ?_
  have t1 := h.1
  replace h := h.2
  refine x_get C hW (t := 12) (k := 93) t1 kl_12 (by decide) fl_X12_500 (v := .int (mI σ l0 93)) rfl dX12_isWaiting_1 ?_
  refine lv_if_le hx hb dX12_isWaiting_4 (tgt := 26) rfl (fun hc => ?_) (fun hc => ?_)
  · replace h := h.1 hc
    exact t_X12_isWaiting_26 C hr hS hW (hl.keep [false, false] rfl) h
  · replace h := h.2 hc
    refine x_aload_n C hl dX12_isWaiting_7 rfl ?_
    refine x_get C hW (t := 12) (k := 92) t1 kl_12 (by decide) fl_X12_217 (v := rv b0 (mR σ l0 92)) rfl dX12_isWaiting_8 ?_
    refine x_aload_n C hl dX12_isWaiting_11 rfl ?_
    refine x_get C hW (t := 12) (k := 93) t1 kl_12 (by decide) fl_X12_500 (v := .int (mI σ l0 93)) rfl dX12_isWaiting_12 ?_
    refine lv_iconst (v := (1 : Int32)) hx hb dX12_isWaiting_15 (by decide) ?_
    refine lv_isub hx hb dX12_isWaiting_16 ?_
    have t2 := h.1
    replace h := h.2
    have v3 := h.1
    replace h := h.2
    refine x_iald C hW t2 v3 dX12_isWaiting_17 ?_
    refine x_iload_n C hl dX12_isWaiting_18 rfl ?_
    refine lv_icmp_ne hx hb dX12_isWaiting_19 (tgt := 26) rfl (fun hc => ?_) (fun hc => ?_)
    · replace h := h.2 hc
      exact t_X12_isWaiting_26 C hr hS hW (hl.keep [false, false] rfl) h
    · replace h := h.1 hc
      refine lv_iconst (v := (1 : Int32)) hx hb dX12_isWaiting_22 (by decide) ?_
      refine lv_goto hx hb dX12_isWaiting_23 (tgt := 27) rfl ?_
      exact t_X12_isWaiting_27 C hr hS hW (hl.keep [false, false] rfl) h
theorem T_X12_isWaiting (l : Launch) {G : Lay} {D : va_G} {tc : Nat → ClassId} {b0 : Nat} (l0 : Nat) (l1 : Int32) (σ : Mem) (Qx : Int32 → Mem → Prop) (h : X_X12_isWaiting G Qx l0 l1 σ) : MI l yX12_isWaiting cX12_isWaiting 2 ((some FieldType.boolean)) rm_X12_isWaiting G D tc b0 [rv b0 l0, .int l1] σ Qx :=
  x_entry (y := yX12_isWaiting) [.inr (.inr l0), .inl l1] 0 (by decide) (Nat.le_of_ble_eq_true rfl) (fun p e s m args below meth c ls C hr hW hl => t_X12_isWaiting_0 C hr va_S.rf hW (hl.keep [true, true] rfl) h)
/-! X12_goes -/
set_option maxRecDepth 20000 in
set_option maxHeartbeats 4000000 in
theorem t_X12_goes_0 {p : Program} {l : Launch} {e : Env} {s : State} {m : MethodId} {args : Array Value} {below : List Frame} {meth : Method} {c : Code} {H : Heap} {locs : List Loc} {D : va_G} {tc : Nat → ClassId} {b0 : Nat} {ls : Array Slot} {G : Lay} {Qx : Mem → Prop} {l0 : Nat}  {σ : Mem} (C : Cx p s m args meth c cX12_goes RX12 1 D tc b0) (hr : meth.sig.returnType = (none : Option FieldType)) (hS : va_S (AA b0) s.heap H locs) (hW : Wd G D tc b0 σ H) (hl : hL b0 ls 1 [some (.inr (.inr l0))]) (h : X_X12_goes_0 G Qx l0  σ) : W p l e rm_X12_goes s m args below meth c H locs 0 0 (MQ below (va_Qv Qx (fun u t => Pw G D tc b0 u t) (AA b0)) args s 0 0 (AA b0)) (F0 m 0 ls []) := by
  have hx := C.1
  have hb := C.2.1
  unfold X_X12_goes_0 at h
  refine x_aload_n C hl dX12_goes_0 rfl ?_
  refine lv_dup hx hb dX12_goes_1 (rv_cat _ _) ?_
  have t1 := h.1
  replace h := h.2
  refine x_get C hW (t := 12) (k := 93) t1 kl_12 (by decide) fl_X12_500 (v := .int (mI σ l0 93)) rfl dX12_goes_2 ?_
  refine lv_iconst (v := (1 : Int32)) hx hb dX12_goes_5 (by decide) ?_
  refine lv_isub hx hb dX12_goes_6 ?_
  refine x_putI C hW hS (t := 12) (k := 93) t1 kl_12 (by decide) fl_X12_500 rfl rfl rfl rfl dX12_goes_7 (fun H locs hW hS => ?_)
  obtain ⟨s2, e_s2⟩ : ∃ z : Mem, z = (sI σ l0 93 ((mI σ l0 93) - (1 : Int32))) := ⟨_, rfl⟩
  replace h := h s2 e_s2
  replace hW : Wd G D tc b0 s2 H := by rw [e_s2]; exact hW
  refine x_aload_n C hl dX12_goes_10 rfl ?_
  refine x_aload_n C hl dX12_goes_11 rfl ?_
  refine x_get C hW (t := 12) (k := 92) t1 kl_12 (by decide) fl_X12_217 (v := rv b0 (mR s2 l0 92)) rfl dX12_goes_12 ?_
  refine x_aload_n C hl dX12_goes_15 rfl ?_
  refine x_get C hW (t := 12) (k := 93) t1 kl_12 (by decide) fl_X12_500 (v := .int (mI s2 l0 93)) rfl dX12_goes_16 ?_
  have t3 := h.1
  replace h := h.2
  have v4 := h.1
  replace h := h.2
  refine x_iald C hW t3 v4 dX12_goes_19 ?_
  refine lv_iconst (v := (0 : Int32)) hx hb dX12_goes_20 (by decide) ?_
  refine lv_iconst (v := (0 : Int32)) hx hb dX12_goes_21 (by decide) ?_
  refine lv_iconst (v := (0 : Int32)) hx hb dX12_goes_22 (by decide) ?_
  refine lv_iconst (v := (0 : Int32)) hx hb dX12_goes_23 (by decide) ?_
  refine y_v (x_run (As := [.int (mI s2 (mR s2 l0 92) (mI s2 l0 93).toNatClampNeg), .int (0 : Int32), .int (0 : Int32), .int (0 : Int32), .int (0 : Int32)]) C hW hS (T_X12_does l l0 (mI s2 (mR s2 l0 92) (mI s2 l0 93).toNatClampNeg) (0 : Int32) (0 : Int32) (0 : Int32) (0 : Int32) s2 _ h) t1 kl_12 (CW.of yv_X12_does ml_X12_503) ⟨rfl, rfl, ⟨by decide, by decide⟩, by decide, by decide⟩ rfl hl.1 rfl (by decide) dX12_goes_24) hS (fun s5 H locs h hW hS => ?_)
  exact r_v C hr hW hS h dX12_goes_27
theorem T_X12_goes (l : Launch) {G : Lay} {D : va_G} {tc : Nat → ClassId} {b0 : Nat} (l0 : Nat) (σ : Mem) (Qx : Mem → Prop) (h : X_X12_goes G Qx l0 σ) : MV l yX12_goes cX12_goes 1 ((none : Option FieldType)) rm_X12_goes G D tc b0 [rv b0 l0] σ Qx :=
  x_entry (y := yX12_goes) [.inr (.inr l0)] 0 (by decide) (Nat.le_of_ble_eq_true rfl) (fun p e s m args below meth c ls C hr hW hl => t_X12_goes_0 C hr va_S.rf hW (hl.keep [true] rfl) h)
/-! X12_waitsToo -/
set_option maxRecDepth 20000 in
set_option maxHeartbeats 4000000 in
theorem t_X12_waitsToo_0 {p : Program} {l : Launch} {e : Env} {s : State} {m : MethodId} {args : Array Value} {below : List Frame} {meth : Method} {c : Code} {H : Heap} {locs : List Loc} {D : va_G} {tc : Nat → ClassId} {b0 : Nat} {ls : Array Slot} {G : Lay} {Qx : Mem → Prop} {l0 : Nat} {l1 : Int32}  {σ : Mem} (C : Cx p s m args meth c cX12_waitsToo RX12 2 D tc b0) (hr : meth.sig.returnType = (none : Option FieldType)) (hS : va_S (AA b0) s.heap H locs) (hW : Wd G D tc b0 σ H) (hl : hL b0 ls 2 [some (.inr (.inr l0)), some (.inl l1)]) (h : X_X12_waitsToo_0 G Qx l0 l1  σ) : W p l e rm_X12_waitsToo s m args below meth c H locs 0 0 (MQ below (va_Qv Qx (fun u t => Pw G D tc b0 u t) (AA b0)) args s 0 0 (AA b0)) (F0 m 0 ls []) := by
  have hx := C.1
  have hb := C.2.1
  unfold X_X12_waitsToo_0 at h
  refine x_aload_n C hl dX12_waitsToo_0 rfl ?_
  have t1 := h.1
  replace h := h.2
  refine x_get C hW (t := 12) (k := 92) t1 kl_12 (by decide) fl_X12_217 (v := rv b0 (mR σ l0 92)) rfl dX12_waitsToo_1 ?_
  refine x_aload_n C hl dX12_waitsToo_4 rfl ?_
  refine x_get C hW (t := 12) (k := 93) t1 kl_12 (by decide) fl_X12_500 (v := .int (mI σ l0 93)) rfl dX12_waitsToo_5 ?_
  refine x_iload_n C hl dX12_waitsToo_8 rfl ?_
  have t2 := h.1
  replace h := h.2
  have v3 := h.1
  replace h := h.2
  refine x_iast C hW hS t2 v3 dX12_waitsToo_9 (fun H locs hW hS => ?_)
  obtain ⟨s4, e_s4⟩ : ∃ z : Mem, z = (sI σ (mR σ l0 92) (mI σ l0 93).toNatClampNeg l1) := ⟨_, rfl⟩
  replace h := h s4 e_s4
  replace hW : Wd G D tc b0 s4 H := by rw [e_s4]; exact hW
  refine x_aload_n C hl dX12_waitsToo_10 rfl ?_
  refine lv_dup hx hb dX12_waitsToo_11 (rv_cat _ _) ?_
  refine x_get C hW (t := 12) (k := 93) t1 kl_12 (by decide) fl_X12_500 (v := .int (mI s4 l0 93)) rfl dX12_waitsToo_12 ?_
  refine lv_iconst (v := (1 : Int32)) hx hb dX12_waitsToo_15 (by decide) ?_
  refine lv_iadd hx hb dX12_waitsToo_16 ?_
  refine x_putI C hW hS (t := 12) (k := 93) t1 kl_12 (by decide) fl_X12_500 rfl rfl rfl rfl dX12_waitsToo_17 (fun H locs hW hS => ?_)
  obtain ⟨s5, e_s5⟩ : ∃ z : Mem, z = (sI s4 l0 93 ((mI s4 l0 93) + (1 : Int32))) := ⟨_, rfl⟩
  replace h := h s5 e_s5
  replace hW : Wd G D tc b0 s5 H := by rw [e_s5]; exact hW
  refine x_aload_n C hl dX12_waitsToo_20 rfl ?_
  refine y_v (x_run (As := []) C hW hS (T_X12_advance l l0 s5 _ h) t1 kl_12 (CW.of yv_X12_advance ml_X12_271) ⟨rfl, rfl, ⟨by decide, by decide⟩, by decide, by decide⟩ rfl hl.1 rfl (by decide) dX12_waitsToo_21) hS (fun s6 H locs h hW hS => ?_)
  exact r_v C hr hW hS h dX12_waitsToo_24
theorem T_X12_waitsToo (l : Launch) {G : Lay} {D : va_G} {tc : Nat → ClassId} {b0 : Nat} (l0 : Nat) (l1 : Int32) (σ : Mem) (Qx : Mem → Prop) (h : X_X12_waitsToo G Qx l0 l1 σ) : MV l yX12_waitsToo cX12_waitsToo 2 ((none : Option FieldType)) rm_X12_waitsToo G D tc b0 [rv b0 l0, .int l1] σ Qx :=
  x_entry (y := yX12_waitsToo) [.inr (.inr l0), .inl l1] 0 (by decide) (Nat.le_of_ble_eq_true rfl) (fun p e s m args below meth c ls C hr hW hl => t_X12_waitsToo_0 C hr va_S.rf hW (hl.keep [true, true] rfl) h)
/-! X12_endsNot -/
set_option maxRecDepth 20000 in
set_option maxHeartbeats 4000000 in
theorem t_X12_endsNot_0_n {p : Program} {l : Launch} {e : Env} {s : State} {m : MethodId} {args : Array Value} {below : List Frame} {meth : Method} {c : Code} {D : va_G} {tc : Nat → ClassId} {b0 : Nat} {G : Lay} {Qx : Mem → Prop} {l0 : Nat} (C : Cx p s m args meth c cX12_endsNot RX12 1 D tc b0) (hr : meth.sig.returnType = (none : Option FieldType)) (n : Nat) : ∀  (σ : Mem) (H : Heap) (locs : List Loc) (ls : Array Slot), va_S (AA b0) s.heap H locs → Wd G D tc b0 σ H → hL b0 ls 1 [some (.inr (.inr l0))] → Lp (X_X12_endsNot_0_s G Qx l0) n (σ) → W p l e rm_X12_endsNot s m args below meth c H locs 0 0 (MQ below (va_Qv Qx (fun u t => Pw G D tc b0 u t) (AA b0)) args s 0 0 (AA b0)) (F0 m 0 ls []) := by
  have hx := C.1
  have hb := C.2.1
  induction n with
  | zero => intro  σ H locs ls hS hW hl h; exact False.elim h
  | succ n hK0 =>
    intro  σ H locs ls hS hW hl h
    replace h : X_X12_endsNot_0_s G Qx l0 (Lp (X_X12_endsNot_0_s G Qx l0) n) (σ) := h
    unfold X_X12_endsNot_0_s at h
    refine x_aload_n C hl dX12_endsNot_0 rfl ?_
    refine lv_iconst (v := (2 : Int32)) hx hb dX12_endsNot_1 (by decide) ?_
    have t1 := h.1
    replace h := h.2
    refine y_i (x_run (As := [.int (2 : Int32)]) C hW hS (T_X12_isWaiting l l0 (2 : Int32) σ _ h) t1 kl_12 (CW.of yv_X12_isWaiting ml_X12_507) ⟨rfl, rfl, ⟨by decide, by decide⟩, by decide, by decide⟩ rfl hl.1 rfl (by decide) dX12_endsNot_2) hS (fun w3 s2 H locs h hW hS => ?_)
    refine lv_if_eq hx hb dX12_endsNot_5 (tgt := 25) rfl (fun hc => ?_) (fun hc => ?_)
    · replace h := h.1 hc
      exact r_v C hr hW hS h dX12_endsNot_25
    · replace h := h.2 hc
      refine x_aload_n C hl dX12_endsNot_8 rfl ?_
      refine y_v (x_run (As := []) C hW hS (T_X12_goes l l0 s2 _ h) t1 kl_12 (CW.of yv_X12_goes ml_X12_510) ⟨rfl, rfl, ⟨by decide, by decide⟩, by decide, by decide⟩ rfl hl.1 rfl (by decide) dX12_endsNot_9) hS (fun s4 H locs h hW hS => ?_)
      refine x_aload_n C hl dX12_endsNot_12 rfl ?_
      refine lv_dup hx hb dX12_endsNot_13 (rv_cat _ _) ?_
      refine x_get C hW (t := 12) (k := 88) t1 kl_12 (by decide) fl_X12_513 (v := .int (mI s4 l0 88)) rfl dX12_endsNot_14 ?_
      refine lv_iconst (v := (1 : Int32)) hx hb dX12_endsNot_17 (by decide) ?_
      refine lv_isub hx hb dX12_endsNot_18 ?_
      refine x_putI C hW hS (t := 12) (k := 88) t1 kl_12 (by decide) fl_X12_513 rfl rfl rfl rfl dX12_endsNot_19 (fun H locs hW hS => ?_)
      obtain ⟨s5, e_s5⟩ : ∃ z : Mem, z = (sI s4 l0 88 ((mI s4 l0 88) - (1 : Int32))) := ⟨_, rfl⟩
      replace h := h s5 e_s5
      replace hW : Wd G D tc b0 s5 H := by rw [e_s5]; exact hW
      refine lv_goto hx hb dX12_endsNot_22 (tgt := 0) rfl ?_
      exact hK0 _ _ _ _ hS hW (hl.keep [true] rfl) h
set_option maxRecDepth 20000 in
set_option maxHeartbeats 4000000 in
theorem t_X12_endsNot_0 {p : Program} {l : Launch} {e : Env} {s : State} {m : MethodId} {args : Array Value} {below : List Frame} {meth : Method} {c : Code} {H : Heap} {locs : List Loc} {D : va_G} {tc : Nat → ClassId} {b0 : Nat} {ls : Array Slot} {G : Lay} {Qx : Mem → Prop} {l0 : Nat}  {σ : Mem} (C : Cx p s m args meth c cX12_endsNot RX12 1 D tc b0) (hr : meth.sig.returnType = (none : Option FieldType)) (hS : va_S (AA b0) s.heap H locs) (hW : Wd G D tc b0 σ H) (hl : hL b0 ls 1 [some (.inr (.inr l0))]) (h : X_X12_endsNot_0 G Qx l0 σ) : W p l e rm_X12_endsNot s m args below meth c H locs 0 0 (MQ below (va_Qv Qx (fun u t => Pw G D tc b0 u t) (AA b0)) args s 0 0 (AA b0)) (F0 m 0 ls []) := by
  obtain ⟨n, h⟩ := h
  exact t_X12_endsNot_0_n C hr n  σ H locs ls hS hW hl h
theorem T_X12_endsNot (l : Launch) {G : Lay} {D : va_G} {tc : Nat → ClassId} {b0 : Nat} (l0 : Nat) (σ : Mem) (Qx : Mem → Prop) (h : X_X12_endsNot G Qx l0 σ) : MV l yX12_endsNot cX12_endsNot 1 ((none : Option FieldType)) rm_X12_endsNot G D tc b0 [rv b0 l0] σ Qx :=
  x_entry (y := yX12_endsNot) [.inr (.inr l0)] 0 (by decide) (Nat.le_of_ble_eq_true rfl) (fun p e s m args below meth c ls C hr hW hl => t_X12_endsNot_0 C hr va_S.rf hW (hl.keep [true] rfl) h)
/-! X12_readPath -/
set_option maxRecDepth 20000 in
set_option maxHeartbeats 4000000 in
theorem t_X12_readPath_183 {p : Program} {l : Launch} {e : Env} {s : State} {m : MethodId} {args : Array Value} {below : List Frame} {meth : Method} {c : Code} {H : Heap} {locs : List Loc} {D : va_G} {tc : Nat → ClassId} {b0 : Nat} {ls : Array Slot} {G : Lay} {Qx : Int32 → Mem → Prop} {l0 : Nat} {l1 : Int32} {l2 : Int32} {l3 : Int32} {l4 : Int32} {l5 : Int32}  {K16 : Int32 × Int32 × Int32 × Mem → Prop} {σ : Mem} (C : Cx p s m args meth c cX12_readPath RX12 10 D tc b0) (hr : meth.sig.returnType = (some FieldType.boolean)) (hK16 : ∀ (x2 : Int32) (x4 : Int32) (x5 : Int32) (σ : Mem) (H : Heap) (locs : List Loc) (ls : Array Slot), va_S (AA b0) s.heap H locs → Wd G D tc b0 σ H → hL b0 ls 10 [some (.inr (.inr l0)), some (.inl l1), some (.inl x2), some (.inl l3), some (.inl x4), some (.inl x5), none, none, none, none] → K16 (x2, x4, x5, σ) → W p l e rm_X12_readPath s m args below meth c H locs 0 0 (MQ below (va_Qi Qx (fun u t => Pw G D tc b0 u t) (AA b0)) args s 0 0 (AA b0)) (F0 m 16 ls [])) (hS : va_S (AA b0) s.heap H locs) (hW : Wd G D tc b0 σ H) (hl : hL b0 ls 10 [some (.inr (.inr l0)), some (.inl l1), some (.inl l2), some (.inl l3), some (.inl l4), some (.inl l5), none, none, none, none]) (h : X_X12_readPath_183 G Qx K16 l0 l1 l2 l3 l4 l5  σ) : W p l e rm_X12_readPath s m args below meth c H locs 0 0 (MQ below (va_Qi Qx (fun u t => Pw G D tc b0 u t) (AA b0)) args s 0 0 (AA b0)) (F0 m 183 ls []) := by
  have hx := C.1
  have hb := C.2.1
  unfold X_X12_readPath_183 at h
  refine lv_goto hx hb dX12_readPath_183 (tgt := 16) rfl ?_
  exact hK16 _ _ _ _ _ _ _ hS hW (hl.keep [true, true, true, true, true, true, false, false, false, false] rfl) h
set_option maxRecDepth 20000 in
set_option maxHeartbeats 4000000 in
theorem t_X12_readPath_147 {p : Program} {l : Launch} {e : Env} {s : State} {m : MethodId} {args : Array Value} {below : List Frame} {meth : Method} {c : Code} {H : Heap} {locs : List Loc} {D : va_G} {tc : Nat → ClassId} {b0 : Nat} {ls : Array Slot} {G : Lay} {Qx : Int32 → Mem → Prop} {l0 : Nat} {l1 : Int32} {l2 : Int32} {l3 : Int32} {l4 : Int32} {l5 : Int32} {l7 : Int32} {k0 : Int32} {K16 : Int32 × Int32 × Int32 × Mem → Prop} {σ : Mem} (C : Cx p s m args meth c cX12_readPath RX12 10 D tc b0) (hr : meth.sig.returnType = (some FieldType.boolean)) (hK16 : ∀ (x2 : Int32) (x4 : Int32) (x5 : Int32) (σ : Mem) (H : Heap) (locs : List Loc) (ls : Array Slot), va_S (AA b0) s.heap H locs → Wd G D tc b0 σ H → hL b0 ls 10 [some (.inr (.inr l0)), some (.inl l1), some (.inl x2), some (.inl l3), some (.inl x4), some (.inl x5), none, none, none, none] → K16 (x2, x4, x5, σ) → W p l e rm_X12_readPath s m args below meth c H locs 0 0 (MQ below (va_Qi Qx (fun u t => Pw G D tc b0 u t) (AA b0)) args s 0 0 (AA b0)) (F0 m 16 ls [])) (hS : va_S (AA b0) s.heap H locs) (hW : Wd G D tc b0 σ H) (hl : hL b0 ls 10 [some (.inr (.inr l0)), some (.inl l1), some (.inl l2), some (.inl l3), some (.inl l4), some (.inl l5), none, some (.inl l7), none, none]) (h : X_X12_readPath_147 G Qx K16 l0 l1 l2 l3 l4 l5 l7 k0 σ) : W p l e rm_X12_readPath s m args below meth c H locs 0 0 (MQ below (va_Qi Qx (fun u t => Pw G D tc b0 u t) (AA b0)) args s 0 0 (AA b0)) (F0 m 147 ls [.int k0]) := by
  have hx := C.1
  have hb := C.2.1
  unfold X_X12_readPath_147 at h
  refine x_istore C hl dX12_readPath_147 (by decide) rfl (fun ls hl => ?_)
  refine x_iload C hl dX12_readPath_149 rfl ?_
  refine lv_if_ne hx hb dX12_readPath_151 (tgt := 166) rfl (fun hc => ?_) (fun hc => ?_)
  · replace h := h.2 hc
    refine x_iload C hl dX12_readPath_166 rfl ?_
    refine lv_if_eq hx hb dX12_readPath_168 (tgt := 183) rfl (fun hc => ?_) (fun hc => ?_)
    · replace h := h.1 hc
      exact t_X12_readPath_183 C hr hK16 hS hW (hl.keep [true, true, true, true, true, true, false, false, false, false] rfl) h
    · replace h := h.2 hc
      refine x_aload_n C hl dX12_readPath_171 rfl ?_
      have t1 := h.1
      replace h := h.2
      refine x_get C hW (t := 12) (k := 10) t1 kl_12 (by decide) fl_X12_35 (v := rv b0 (mR σ l0 10)) rfl dX12_readPath_172 ?_
      refine x_iload C hl dX12_readPath_175 rfl ?_
      have t2 := h.1
      replace h := h.2
      have v3 := h.1
      replace h := h.2
      refine x_iald C hW t2 v3 dX12_readPath_177 ?_
      refine x_istore_n C hl dX12_readPath_178 (by decide) rfl (fun ls hl => ?_)
      refine x_aload_n C hl dX12_readPath_179 rfl ?_
      refine y_v (x_run (As := []) C hW hS (T_X12_advance l l0 σ _ h) t1 kl_12 (CW.of yv_X12_advance ml_X12_271) ⟨rfl, rfl, ⟨by decide, by decide⟩, by decide, by decide⟩ rfl hl.1 rfl (by decide) dX12_readPath_180) hS (fun s4 H locs h hW hS => ?_)
      exact t_X12_readPath_183 C hr hK16 hS hW (hl.keep [true, true, true, true, true, true, false, false, false, false] rfl) h
  · replace h := h.1 hc
    refine x_aload_n C hl dX12_readPath_154 rfl ?_
    refine x_iload C hl dX12_readPath_155 rfl ?_
    have t5 := h.1
    replace h := h.2
    refine x_putI C hW hS (t := 12) (k := 49) t5 kl_12 (by decide) fl_X12_237 rfl rfl rfl rfl dX12_readPath_157 (fun H locs hW hS => ?_)
    obtain ⟨s6, e_s6⟩ : ∃ z : Mem, z = (sI σ l0 49 l7) := ⟨_, rfl⟩
    replace h := h s6 e_s6
    replace hW : Wd G D tc b0 s6 H := by rw [e_s6]; exact hW
    refine x_aload_n C hl dX12_readPath_160 rfl ?_
    refine lv_iconst (v := (3 : Int32)) hx hb dX12_readPath_161 (by decide) ?_
    refine y_i (x_run (As := [.int (3 : Int32)]) C hW hS (T_X12_fails l l0 (3 : Int32) s6 _ h) t5 kl_12 (CW.of yv_X12_fails ml_X12_261) ⟨rfl, rfl, ⟨by decide, by decide⟩, by decide, by decide⟩ rfl hl.1 rfl (by decide) dX12_readPath_162) hS (fun w8 s7 H locs h hW hS => ?_)
    exact r_z C hr hW hS h.1 h.2 dX12_readPath_165
set_option maxRecDepth 20000 in
set_option maxHeartbeats 4000000 in
theorem t_X12_readPath_112 {p : Program} {l : Launch} {e : Env} {s : State} {m : MethodId} {args : Array Value} {below : List Frame} {meth : Method} {c : Code} {H : Heap} {locs : List Loc} {D : va_G} {tc : Nat → ClassId} {b0 : Nat} {ls : Array Slot} {G : Lay} {Qx : Int32 → Mem → Prop} {l0 : Nat} {l1 : Int32} {l2 : Int32} {l3 : Int32} {l4 : Int32} {l5 : Int32} {l7 : Int32}  {K16 : Int32 × Int32 × Int32 × Mem → Prop} {σ : Mem} (C : Cx p s m args meth c cX12_readPath RX12 10 D tc b0) (hr : meth.sig.returnType = (some FieldType.boolean)) (hK16 : ∀ (x2 : Int32) (x4 : Int32) (x5 : Int32) (σ : Mem) (H : Heap) (locs : List Loc) (ls : Array Slot), va_S (AA b0) s.heap H locs → Wd G D tc b0 σ H → hL b0 ls 10 [some (.inr (.inr l0)), some (.inl l1), some (.inl x2), some (.inl l3), some (.inl x4), some (.inl x5), none, none, none, none] → K16 (x2, x4, x5, σ) → W p l e rm_X12_readPath s m args below meth c H locs 0 0 (MQ below (va_Qi Qx (fun u t => Pw G D tc b0 u t) (AA b0)) args s 0 0 (AA b0)) (F0 m 16 ls [])) (hS : va_S (AA b0) s.heap H locs) (hW : Wd G D tc b0 σ H) (hl : hL b0 ls 10 [some (.inr (.inr l0)), some (.inl l1), some (.inl l2), some (.inl l3), some (.inl l4), some (.inl l5), none, some (.inl l7), none, none]) (h : X_X12_readPath_112 G Qx K16 l0 l1 l2 l3 l4 l5 l7  σ) : W p l e rm_X12_readPath s m args below meth c H locs 0 0 (MQ below (va_Qi Qx (fun u t => Pw G D tc b0 u t) (AA b0)) args s 0 0 (AA b0)) (F0 m 112 ls []) := by
  have hx := C.1
  have hb := C.2.1
  unfold X_X12_readPath_112 at h
  refine x_aload_n C hl dX12_readPath_112 rfl ?_
  have t1 := h.1
  replace h := h.2
  refine x_get C hW (t := 12) (k := 9) t1 kl_12 (by decide) fl_X12_32 (v := rv b0 (mR σ l0 9)) rfl dX12_readPath_113 ?_
  refine x_iload C hl dX12_readPath_116 rfl ?_
  have t2 := h.1
  replace h := h.2
  have v3 := h.1
  replace h := h.2
  refine x_iald C hW t2 v3 dX12_readPath_118 ?_
  refine lv_iconst (v := (4 : Int32)) hx hb dX12_readPath_119 (by decide) ?_
  refine lv_icmp_ne hx hb dX12_readPath_120 (tgt := 127) rfl (fun hc => ?_) (fun hc => ?_)
  · replace h := h.2 hc
    refine lv_iconst (v := (0 : Int32)) hx hb dX12_readPath_127 (by decide) ?_
    refine lv_goto hx hb dX12_readPath_128 (tgt := 147) rfl ?_
    exact t_X12_readPath_147 C hr hK16 hS hW (hl.keep [true, true, true, true, true, true, false, true, false, false] rfl) h
  · replace h := h.1 hc
    refine lv_iconst (v := (1 : Int32)) hx hb dX12_readPath_123 (by decide) ?_
    refine lv_goto hx hb dX12_readPath_124 (tgt := 147) rfl ?_
    exact t_X12_readPath_147 C hr hK16 hS hW (hl.keep [true, true, true, true, true, true, false, true, false, false] rfl) h
set_option maxRecDepth 20000 in
set_option maxHeartbeats 4000000 in
theorem t_X12_readPath_364 {p : Program} {l : Launch} {e : Env} {s : State} {m : MethodId} {args : Array Value} {below : List Frame} {meth : Method} {c : Code} {H : Heap} {locs : List Loc} {D : va_G} {tc : Nat → ClassId} {b0 : Nat} {ls : Array Slot} {G : Lay} {Qx : Int32 → Mem → Prop} {l0 : Nat} {l3 : Int32} {l4 : Int32} {l6 : Int32} {l9 : Int32} {k0 : Int32} {K322 : Int32 × Int32 × Mem → Prop} {σ : Mem} (C : Cx p s m args meth c cX12_readPath RX12 10 D tc b0) (hr : meth.sig.returnType = (some FieldType.boolean)) (hK322 : ∀ (x8 : Int32) (x9 : Int32) (σ : Mem) (H : Heap) (locs : List Loc) (ls : Array Slot), va_S (AA b0) s.heap H locs → Wd G D tc b0 σ H → hL b0 ls 10 [some (.inr (.inr l0)), none, none, some (.inl l3), some (.inl l4), none, some (.inl l6), none, some (.inl x8), some (.inl x9)] → K322 (x8, x9, σ) → W p l e rm_X12_readPath s m args below meth c H locs 0 0 (MQ below (va_Qi Qx (fun u t => Pw G D tc b0 u t) (AA b0)) args s 0 0 (AA b0)) (F0 m 322 ls [])) (hS : va_S (AA b0) s.heap H locs) (hW : Wd G D tc b0 σ H) (hl : hL b0 ls 10 [some (.inr (.inr l0)), none, none, some (.inl l3), some (.inl l4), none, some (.inl l6), none, none, some (.inl l9)]) (h : X_X12_readPath_364 G Qx K322 l0 l3 l4 l6 l9 k0 σ) : W p l e rm_X12_readPath s m args below meth c H locs 0 0 (MQ below (va_Qi Qx (fun u t => Pw G D tc b0 u t) (AA b0)) args s 0 0 (AA b0)) (F0 m 364 ls [.int k0]) := by
  have hx := C.1
  have hb := C.2.1
  unfold X_X12_readPath_364 at h
  refine x_istore C hl dX12_readPath_364 (by decide) rfl (fun ls hl => ?_)
  refine x_iinc C hl dX12_readPath_366 rfl (v := (1 : Int32)) (by decide) (by decide) rfl (fun ls hl => ?_)
  refine lv_goto hx hb dX12_readPath_369 (tgt := 322) rfl ?_
  exact hK322 _ _ _ _ _ _ hS hW (hl.keep [true, false, false, true, true, false, true, false, true, true] rfl) h
set_option maxRecDepth 20000 in
set_option maxHeartbeats 4000000 in
theorem t_X12_readPath_387 {p : Program} {l : Launch} {e : Env} {s : State} {m : MethodId} {args : Array Value} {below : List Frame} {meth : Method} {c : Code} {H : Heap} {locs : List Loc} {D : va_G} {tc : Nat → ClassId} {b0 : Nat} {ls : Array Slot} {G : Lay} {Qx : Int32 → Mem → Prop} {l0 : Nat} {l3 : Int32} {l6 : Int32} {l7 : Int32}  {σ : Mem} (C : Cx p s m args meth c cX12_readPath RX12 10 D tc b0) (hr : meth.sig.returnType = (some FieldType.boolean)) (hS : va_S (AA b0) s.heap H locs) (hW : Wd G D tc b0 σ H) (hl : hL b0 ls 10 [some (.inr (.inr l0)), none, none, some (.inl l3), none, none, some (.inl l6), some (.inl l7), none, none]) (h : X_X12_readPath_387 G Qx l0 l3 l6 l7  σ) : W p l e rm_X12_readPath s m args below meth c H locs 0 0 (MQ below (va_Qi Qx (fun u t => Pw G D tc b0 u t) (AA b0)) args s 0 0 (AA b0)) (F0 m 387 ls []) := by
  have hx := C.1
  have hb := C.2.1
  unfold X_X12_readPath_387 at h
  refine x_aload_n C hl dX12_readPath_387 rfl ?_
  have t1 := h.1
  replace h := h.2
  refine y_v (x_run (As := []) C hW hS (T_X12_advance l l0 σ _ h) t1 kl_12 (CW.of yv_X12_advance ml_X12_271) ⟨rfl, rfl, ⟨by decide, by decide⟩, by decide, by decide⟩ rfl hl.1 rfl (by decide) dX12_readPath_388) hS (fun s2 H locs h hW hS => ?_)
  refine x_aload_n C hl dX12_readPath_391 rfl ?_
  refine lv_iconst (v := (0 : Int32)) hx hb dX12_readPath_392 (by decide) ?_
  refine x_iload_n C hl dX12_readPath_393 rfl ?_
  refine x_aload_n C hl dX12_readPath_394 rfl ?_
  refine x_get C hW (t := 12) (k := 87) t1 kl_12 (by decide) fl_X12_529 (v := .int (mI s2 l0 87)) rfl dX12_readPath_395 ?_
  refine x_iload_n C hl dX12_readPath_398 rfl ?_
  refine lv_isub hx hb dX12_readPath_399 ?_
  refine x_iload C hl dX12_readPath_400 rfl ?_
  refine x_iload C hl dX12_readPath_402 rfl ?_
  refine y_v (x_run (As := [.int (0 : Int32), .int l3, .int ((mI s2 l0 87) - l3), .int l6, .int l7]) C hW hS (T_X12_does l l0 (0 : Int32) l3 ((mI s2 l0 87) - l3) l6 l7 s2 _ h) t1 kl_12 (CW.of yv_X12_does ml_X12_503) ⟨rfl, rfl, ⟨by decide, by decide⟩, by decide, by decide⟩ rfl hl.1 rfl (by decide) dX12_readPath_404) hS (fun s3 H locs h hW hS => ?_)
  refine lv_iconst (v := (1 : Int32)) hx hb dX12_readPath_407 (by decide) ?_
  exact r_z C hr hW hS h.1 h.2 dX12_readPath_408
set_option maxRecDepth 20000 in
set_option maxHeartbeats 4000000 in
theorem t_X12_readPath_322_n {p : Program} {l : Launch} {e : Env} {s : State} {m : MethodId} {args : Array Value} {below : List Frame} {meth : Method} {c : Code} {D : va_G} {tc : Nat → ClassId} {b0 : Nat} {G : Lay} {Qx : Int32 → Mem → Prop} {l0 : Nat} {l3 : Int32} {l4 : Int32} {l6 : Int32} (C : Cx p s m args meth c cX12_readPath RX12 10 D tc b0) (hr : meth.sig.returnType = (some FieldType.boolean)) (n : Nat) : ∀ (l8 : Int32) (l9 : Int32) (σ : Mem) (H : Heap) (locs : List Loc) (ls : Array Slot), va_S (AA b0) s.heap H locs → Wd G D tc b0 σ H → hL b0 ls 10 [some (.inr (.inr l0)), none, none, some (.inl l3), some (.inl l4), none, some (.inl l6), none, some (.inl l8), some (.inl l9)] → Lp (X_X12_readPath_322_s G Qx l0 l3 l4 l6) n (l8, l9, σ) → W p l e rm_X12_readPath s m args below meth c H locs 0 0 (MQ below (va_Qi Qx (fun u t => Pw G D tc b0 u t) (AA b0)) args s 0 0 (AA b0)) (F0 m 322 ls []) := by
  have hx := C.1
  have hb := C.2.1
  induction n with
  | zero => intro l8 l9 σ H locs ls hS hW hl h; exact False.elim h
  | succ n hK322 =>
    intro l8 l9 σ H locs ls hS hW hl h
    replace h : X_X12_readPath_322_s G Qx l0 l3 l4 l6 (Lp (X_X12_readPath_322_s G Qx l0 l3 l4 l6) n) (l8, l9, σ) := h
    unfold X_X12_readPath_322_s at h
    refine x_iload C hl dX12_readPath_322 rfl ?_
    refine x_aload_n C hl dX12_readPath_324 rfl ?_
    have t1 := h.1
    replace h := h.2
    refine x_get C hW (t := 12) (k := 12) t1 kl_12 (by decide) fl_X12_41 (v := rv b0 (mR σ l0 12)) rfl dX12_readPath_325 ?_
    refine x_iload C hl dX12_readPath_328 rfl ?_
    have t2 := h.1
    replace h := h.2
    have v3 := h.1
    replace h := h.2
    refine x_iald C hW t2 v3 dX12_readPath_330 ?_
    refine lv_icmp_ge hx hb dX12_readPath_331 (tgt := 372) rfl (fun hc => ?_) (fun hc => ?_)
    · replace h := h.1 hc
      refine x_iload C hl dX12_readPath_372 rfl ?_
      refine lv_if_ge hx hb dX12_readPath_374 (tgt := 383) rfl (fun hc => ?_) (fun hc => ?_)
      · replace h := h.1 hc
        refine x_iload C hl dX12_readPath_383 rfl ?_
        refine x_istore C hl dX12_readPath_385 (by decide) rfl (fun ls hl => ?_)
        exact t_X12_readPath_387 C hr hS hW (hl.keep [true, false, false, true, false, false, true, true, false, false] rfl) h
      · replace h := h.2 hc
        refine x_aload_n C hl dX12_readPath_377 rfl ?_
        refine lv_iconst (v := (3 : Int32)) hx hb dX12_readPath_378 (by decide) ?_
        refine y_i (x_run (As := [.int (3 : Int32)]) C hW hS (T_X12_fails l l0 (3 : Int32) σ _ h) t1 kl_12 (CW.of yv_X12_fails ml_X12_261) ⟨rfl, rfl, ⟨by decide, by decide⟩, by decide, by decide⟩ rfl hl.1 rfl (by decide) dX12_readPath_379) hS (fun w5 s4 H locs h hW hS => ?_)
        exact r_z C hr hW hS h.1 h.2 dX12_readPath_382
    · replace h := h.2 hc
      refine x_aload_n C hl dX12_readPath_334 rfl ?_
      refine x_get C hW (t := 12) (k := 23) t1 kl_12 (by decide) fl_X12_74 (v := rv b0 (mR σ l0 23)) rfl dX12_readPath_335 ?_
      refine x_aload_n C hl dX12_readPath_338 rfl ?_
      refine x_get C hW (t := 12) (k := 11) t1 kl_12 (by decide) fl_X12_38 (v := rv b0 (mR σ l0 11)) rfl dX12_readPath_339 ?_
      refine x_iload C hl dX12_readPath_342 rfl ?_
      have t6 := h.1
      replace h := h.2
      have v7 := h.1
      replace h := h.2
      refine x_iald C hW t6 v7 dX12_readPath_344 ?_
      refine x_iload C hl dX12_readPath_345 rfl ?_
      refine lv_iadd hx hb dX12_readPath_347 ?_
      have t8 := h.1
      replace h := h.2
      have v9 := h.1
      replace h := h.2
      refine x_lald C hW t8 v9 dX12_readPath_348 ?_
      refine x_aload_n C hl dX12_readPath_349 rfl ?_
      refine x_get C hW (t := 12) (k := 52) t1 kl_12 (by decide) fl_X12_246 (v := .long (mJ σ l0 52)) rfl dX12_readPath_350 ?_
      refine W.lcmp hx hb dX12_readPath_353 ?_
      refine lv_if_ne hx hb dX12_readPath_354 (tgt := 362) rfl (fun hc => ?_) (fun hc => ?_)
      · replace h := h.2 hc
        refine x_iload C hl dX12_readPath_362 rfl ?_
        exact t_X12_readPath_364 C hr hK322 hS hW (hl.keep [true, false, false, true, true, false, true, false, false, true] rfl) h
      · replace h := h.1 hc
        refine x_iload C hl dX12_readPath_357 rfl ?_
        refine lv_goto hx hb dX12_readPath_359 (tgt := 364) rfl ?_
        exact t_X12_readPath_364 C hr hK322 hS hW (hl.keep [true, false, false, true, true, false, true, false, false, true] rfl) h
set_option maxRecDepth 20000 in
set_option maxHeartbeats 4000000 in
theorem t_X12_readPath_322 {p : Program} {l : Launch} {e : Env} {s : State} {m : MethodId} {args : Array Value} {below : List Frame} {meth : Method} {c : Code} {H : Heap} {locs : List Loc} {D : va_G} {tc : Nat → ClassId} {b0 : Nat} {ls : Array Slot} {G : Lay} {Qx : Int32 → Mem → Prop} {l0 : Nat} {l3 : Int32} {l4 : Int32} {l6 : Int32} {l8 : Int32} {l9 : Int32}  {σ : Mem} (C : Cx p s m args meth c cX12_readPath RX12 10 D tc b0) (hr : meth.sig.returnType = (some FieldType.boolean)) (hS : va_S (AA b0) s.heap H locs) (hW : Wd G D tc b0 σ H) (hl : hL b0 ls 10 [some (.inr (.inr l0)), none, none, some (.inl l3), some (.inl l4), none, some (.inl l6), none, some (.inl l8), some (.inl l9)]) (h : X_X12_readPath_322 G Qx l0 l3 l4 l6 l8 l9 σ) : W p l e rm_X12_readPath s m args below meth c H locs 0 0 (MQ below (va_Qi Qx (fun u t => Pw G D tc b0 u t) (AA b0)) args s 0 0 (AA b0)) (F0 m 322 ls []) := by
  obtain ⟨n, h⟩ := h
  exact t_X12_readPath_322_n C hr n l8 l9 σ H locs ls hS hW hl h
set_option maxRecDepth 20000 in
set_option maxHeartbeats 4000000 in
theorem t_X12_readPath_238 {p : Program} {l : Launch} {e : Env} {s : State} {m : MethodId} {args : Array Value} {below : List Frame} {meth : Method} {c : Code} {H : Heap} {locs : List Loc} {D : va_G} {tc : Nat → ClassId} {b0 : Nat} {ls : Array Slot} {G : Lay} {Qx : Int32 → Mem → Prop} {l0 : Nat} {l3 : Int32} {l4 : Int32}  {σ : Mem} (C : Cx p s m args meth c cX12_readPath RX12 10 D tc b0) (hr : meth.sig.returnType = (some FieldType.boolean)) (hS : va_S (AA b0) s.heap H locs) (hW : Wd G D tc b0 σ H) (hl : hL b0 ls 10 [some (.inr (.inr l0)), none, none, some (.inl l3), some (.inl l4), none, none, none, none, none]) (h : X_X12_readPath_238 G Qx l0 l3 l4  σ) : W p l e rm_X12_readPath s m args below meth c H locs 0 0 (MQ below (va_Qi Qx (fun u t => Pw G D tc b0 u t) (AA b0)) args s 0 0 (AA b0)) (F0 m 238 ls []) := by
  have hx := C.1
  have hb := C.2.1
  unfold X_X12_readPath_238 at h
  refine x_aload_n C hl dX12_readPath_238 rfl ?_
  have t1 := h.1
  replace h := h.2
  refine x_get C hW (t := 12) (k := 53) t1 kl_12 (by decide) fl_X12_252 (v := .int (mI σ l0 53)) rfl dX12_readPath_239 ?_
  refine x_istore C hl dX12_readPath_242 (by decide) rfl (fun ls hl => ?_)
  refine x_aload_n C hl dX12_readPath_244 rfl ?_
  refine y_v (x_run (As := []) C hW hS (T_X12_advance l l0 σ _ h) t1 kl_12 (CW.of yv_X12_advance ml_X12_271) ⟨rfl, rfl, ⟨by decide, by decide⟩, by decide, by decide⟩ rfl hl.1 rfl (by decide) dX12_readPath_245) hS (fun s2 H locs h hW hS => ?_)
  refine lv_iconst (v := (0 : Int32)) hx hb dX12_readPath_248 (by decide) ?_
  refine x_istore C hl dX12_readPath_249 (by decide) rfl (fun ls hl => ?_)
  refine x_aload_n C hl dX12_readPath_251 rfl ?_
  refine lv_bipush (v := (45 : Int32)) hx hb dX12_readPath_252 (by decide) ?_
  refine y_i (x_run (As := [.int (45 : Int32)]) C hW hS (T_X12_is l l0 (45 : Int32) s2 _ h) t1 kl_12 (CW.of yv_X12_is ml_X12_264) ⟨rfl, rfl, ⟨by decide, by decide⟩, by decide, by decide⟩ rfl hl.1 rfl (by decide) dX12_readPath_254) hS (fun w4 s3 H locs h hW hS => ?_)
  refine lv_if_eq hx hb dX12_readPath_257 (tgt := 287) rfl (fun hc => ?_) (fun hc => ?_)
  · replace h := h.1 hc
    refine x_aload_n C hl dX12_readPath_287 rfl ?_
    refine x_get C hW (t := 12) (k := 51) t1 kl_12 (by decide) fl_X12_243 (v := .int (mI s3 l0 51)) rfl dX12_readPath_288 ?_
    refine lv_iconst (v := (3 : Int32)) hx hb dX12_readPath_291 (by decide) ?_
    refine lv_icmp_ne hx hb dX12_readPath_292 (tgt := 304) rfl (fun hc => ?_) (fun hc => ?_)
    · replace h := h.2 hc
      refine x_aload_n C hl dX12_readPath_304 rfl ?_
      refine y_i (x_run (As := []) C hW hS (T_X12_isName l l0 s3 _ h) t1 kl_12 (CW.of yv_X12_isName ml_X12_319) ⟨rfl, rfl, ⟨by decide, by decide⟩, by decide, by decide⟩ rfl hl.1 rfl (by decide) dX12_readPath_305) hS (fun w6 s5 H locs h hW hS => ?_)
      refine lv_if_ne hx hb dX12_readPath_308 (tgt := 316) rfl (fun hc => ?_) (fun hc => ?_)
      · replace h := h.2 hc
        refine lv_iconst (v := (-1 : Int32)) hx hb dX12_readPath_316 (by decide) ?_
        refine x_istore C hl dX12_readPath_317 (by decide) rfl (fun ls hl => ?_)
        refine lv_iconst (v := (0 : Int32)) hx hb dX12_readPath_319 (by decide) ?_
        refine x_istore C hl dX12_readPath_320 (by decide) rfl (fun ls hl => ?_)
        exact t_X12_readPath_322 C hr hS hW (hl.keep [true, false, false, true, true, false, true, false, true, true] rfl) h
      · replace h := h.1 hc
        refine x_aload_n C hl dX12_readPath_311 rfl ?_
        refine y_i (x_run (As := []) C hW hS (T_X12_wrong l l0 s5 _ h) t1 kl_12 (CW.of yv_X12_wrong ml_X12_267) ⟨rfl, rfl, ⟨by decide, by decide⟩, by decide, by decide⟩ rfl hl.1 rfl (by decide) dX12_readPath_312) hS (fun w8 s7 H locs h hW hS => ?_)
        exact r_z C hr hW hS h.1 h.2 dX12_readPath_315
    · replace h := h.1 hc
      refine x_aload_n C hl dX12_readPath_295 rfl ?_
      refine x_get C hW (t := 12) (k := 53) t1 kl_12 (by decide) fl_X12_252 (v := .int (mI s3 l0 53)) rfl dX12_readPath_296 ?_
      refine x_istore C hl dX12_readPath_299 (by decide) rfl (fun ls hl => ?_)
      refine lv_goto hx hb dX12_readPath_301 (tgt := 387) rfl ?_
      exact t_X12_readPath_387 C hr hS hW (hl.keep [true, false, false, true, false, false, true, true, false, false] rfl) h
  · replace h := h.2 hc
    refine x_aload_n C hl dX12_readPath_260 rfl ?_
    refine y_v (x_run (As := []) C hW hS (T_X12_advance l l0 s3 _ h) t1 kl_12 (CW.of yv_X12_advance ml_X12_271) ⟨rfl, rfl, ⟨by decide, by decide⟩, by decide, by decide⟩ rfl hl.1 rfl (by decide) dX12_readPath_261) hS (fun s9 H locs h hW hS => ?_)
    refine x_aload_n C hl dX12_readPath_264 rfl ?_
    refine x_get C hW (t := 12) (k := 51) t1 kl_12 (by decide) fl_X12_243 (v := .int (mI s9 l0 51)) rfl dX12_readPath_265 ?_
    refine lv_iconst (v := (3 : Int32)) hx hb dX12_readPath_268 (by decide) ?_
    refine lv_icmp_eq hx hb dX12_readPath_269 (tgt := 277) rfl (fun hc => ?_) (fun hc => ?_)
    · replace h := h.1 hc
      refine x_aload_n C hl dX12_readPath_277 rfl ?_
      refine x_get C hW (t := 12) (k := 53) t1 kl_12 (by decide) fl_X12_252 (v := .int (mI s9 l0 53)) rfl dX12_readPath_278 ?_
      refine lv_ineg hx hb dX12_readPath_281 ?_
      refine x_istore C hl dX12_readPath_282 (by decide) rfl (fun ls hl => ?_)
      refine lv_goto hx hb dX12_readPath_284 (tgt := 387) rfl ?_
      exact t_X12_readPath_387 C hr hS hW (hl.keep [true, false, false, true, false, false, true, true, false, false] rfl) h
    · replace h := h.2 hc
      refine x_aload_n C hl dX12_readPath_272 rfl ?_
      refine y_i (x_run (As := []) C hW hS (T_X12_wrong l l0 s9 _ h) t1 kl_12 (CW.of yv_X12_wrong ml_X12_267) ⟨rfl, rfl, ⟨by decide, by decide⟩, by decide, by decide⟩ rfl hl.1 rfl (by decide) dX12_readPath_273) hS (fun w11 s10 H locs h hW hS => ?_)
      exact r_z C hr hW hS h.1 h.2 dX12_readPath_276
set_option maxRecDepth 20000 in
set_option maxHeartbeats 4000000 in
theorem t_X12_readPath_16_n {p : Program} {l : Launch} {e : Env} {s : State} {m : MethodId} {args : Array Value} {below : List Frame} {meth : Method} {c : Code} {D : va_G} {tc : Nat → ClassId} {b0 : Nat} {G : Lay} {Qx : Int32 → Mem → Prop} {l0 : Nat} {l1 : Int32} {l3 : Int32} (C : Cx p s m args meth c cX12_readPath RX12 10 D tc b0) (hr : meth.sig.returnType = (some FieldType.boolean)) (n : Nat) : ∀ (l2 : Int32) (l4 : Int32) (l5 : Int32) (σ : Mem) (H : Heap) (locs : List Loc) (ls : Array Slot), va_S (AA b0) s.heap H locs → Wd G D tc b0 σ H → hL b0 ls 10 [some (.inr (.inr l0)), some (.inl l1), some (.inl l2), some (.inl l3), some (.inl l4), some (.inl l5), none, none, none, none] → Lp (X_X12_readPath_16_s G Qx l0 l1 l3) n (l2, l4, l5, σ) → W p l e rm_X12_readPath s m args below meth c H locs 0 0 (MQ below (va_Qi Qx (fun u t => Pw G D tc b0 u t) (AA b0)) args s 0 0 (AA b0)) (F0 m 16 ls []) := by
  have hx := C.1
  have hb := C.2.1
  induction n with
  | zero => intro l2 l4 l5 σ H locs ls hS hW hl h; exact False.elim h
  | succ n hK16 =>
    intro l2 l4 l5 σ H locs ls hS hW hl h
    replace h : X_X12_readPath_16_s G Qx l0 l1 l3 (Lp (X_X12_readPath_16_s G Qx l0 l1 l3) n) (l2, l4, l5, σ) := h
    unfold X_X12_readPath_16_s at h
    refine x_iload C hl dX12_readPath_16 rfl ?_
    refine lv_if_eq hx hb dX12_readPath_18 (tgt := 186) rfl (fun hc => ?_) (fun hc => ?_)
    · replace h := h.1 hc
      refine x_iload_n C hl dX12_readPath_186 rfl ?_
      refine lv_if_eq hx hb dX12_readPath_187 (tgt := 206) rfl (fun hc => ?_) (fun hc => ?_)
      · replace h := h.1 hc
        refine x_aload_n C hl dX12_readPath_206 rfl ?_
        refine lv_bipush (v := (61 : Int32)) hx hb dX12_readPath_207 (by decide) ?_
        have t1 := h.1
        replace h := h.2
        refine y_i (x_run (As := [.int (61 : Int32)]) C hW hS (T_X12_is l l0 (61 : Int32) σ _ h) t1 kl_12 (CW.of yv_X12_is ml_X12_264) ⟨rfl, rfl, ⟨by decide, by decide⟩, by decide, by decide⟩ rfl hl.1 rfl (by decide) dX12_readPath_209) hS (fun w3 s2 H locs h hW hS => ?_)
        refine lv_if_ne hx hb dX12_readPath_212 (tgt := 238) rfl (fun hc => ?_) (fun hc => ?_)
        · replace h := h.2 hc
          exact t_X12_readPath_238 C hr hS hW (hl.keep [true, false, false, true, true, false, false, false, false, false] rfl) h
        · replace h := h.1 hc
          refine x_aload_n C hl dX12_readPath_215 rfl ?_
          refine lv_bipush (v := (60 : Int32)) hx hb dX12_readPath_216 (by decide) ?_
          refine y_i (x_run (As := [.int (60 : Int32)]) C hW hS (T_X12_is l l0 (60 : Int32) s2 _ h) t1 kl_12 (CW.of yv_X12_is ml_X12_264) ⟨rfl, rfl, ⟨by decide, by decide⟩, by decide, by decide⟩ rfl hl.1 rfl (by decide) dX12_readPath_218) hS (fun w5 s4 H locs h hW hS => ?_)
          refine lv_if_ne hx hb dX12_readPath_221 (tgt := 238) rfl (fun hc => ?_) (fun hc => ?_)
          · replace h := h.2 hc
            exact t_X12_readPath_238 C hr hS hW (hl.keep [true, false, false, true, true, false, false, false, false, false] rfl) h
          · replace h := h.1 hc
            refine x_aload_n C hl dX12_readPath_224 rfl ?_
            refine lv_bipush (v := (62 : Int32)) hx hb dX12_readPath_225 (by decide) ?_
            refine y_i (x_run (As := [.int (62 : Int32)]) C hW hS (T_X12_is l l0 (62 : Int32) s4 _ h) t1 kl_12 (CW.of yv_X12_is ml_X12_264) ⟨rfl, rfl, ⟨by decide, by decide⟩, by decide, by decide⟩ rfl hl.1 rfl (by decide) dX12_readPath_227) hS (fun w7 s6 H locs h hW hS => ?_)
            refine lv_if_ne hx hb dX12_readPath_230 (tgt := 238) rfl (fun hc => ?_) (fun hc => ?_)
            · replace h := h.2 hc
              exact t_X12_readPath_238 C hr hS hW (hl.keep [true, false, false, true, true, false, false, false, false, false] rfl) h
            · replace h := h.1 hc
              refine x_aload_n C hl dX12_readPath_233 rfl ?_
              refine y_i (x_run (As := []) C hW hS (T_X12_wrong l l0 s6 _ h) t1 kl_12 (CW.of yv_X12_wrong ml_X12_267) ⟨rfl, rfl, ⟨by decide, by decide⟩, by decide, by decide⟩ rfl hl.1 rfl (by decide) dX12_readPath_234) hS (fun w9 s8 H locs h hW hS => ?_)
              exact r_z C hr hW hS h.1 h.2 dX12_readPath_237
      · replace h := h.2 hc
        refine x_aload_n C hl dX12_readPath_190 rfl ?_
        refine lv_iconst (v := (1 : Int32)) hx hb dX12_readPath_191 (by decide) ?_
        refine x_iload_n C hl dX12_readPath_192 rfl ?_
        refine x_aload_n C hl dX12_readPath_193 rfl ?_
        have t10 := h.1
        replace h := h.2
        refine x_get C hW (t := 12) (k := 87) t10 kl_12 (by decide) fl_X12_529 (v := .int (mI σ l0 87)) rfl dX12_readPath_194 ?_
        refine x_iload_n C hl dX12_readPath_197 rfl ?_
        refine lv_isub hx hb dX12_readPath_198 ?_
        refine lv_iconst (v := (0 : Int32)) hx hb dX12_readPath_199 (by decide) ?_
        refine lv_iconst (v := (0 : Int32)) hx hb dX12_readPath_200 (by decide) ?_
        refine y_v (x_run (As := [.int (1 : Int32), .int l3, .int ((mI σ l0 87) - l3), .int (0 : Int32), .int (0 : Int32)]) C hW hS (T_X12_does l l0 (1 : Int32) l3 ((mI σ l0 87) - l3) (0 : Int32) (0 : Int32) σ _ h) t10 kl_12 (CW.of yv_X12_does ml_X12_503) ⟨rfl, rfl, ⟨by decide, by decide⟩, by decide, by decide⟩ rfl hl.1 rfl (by decide) dX12_readPath_201) hS (fun s11 H locs h hW hS => ?_)
        refine lv_iconst (v := (1 : Int32)) hx hb dX12_readPath_204 (by decide) ?_
        exact r_z C hr hW hS h.1 h.2 dX12_readPath_205
    · replace h := h.2 hc
      refine x_aload_n C hl dX12_readPath_21 rfl ?_
      have t12 := h.1
      replace h := h.2
      refine y_i (x_run (As := []) C hW hS (T_X12_isName l l0 σ _ h) t12 kl_12 (CW.of yv_X12_isName ml_X12_319) ⟨rfl, rfl, ⟨by decide, by decide⟩, by decide, by decide⟩ rfl hl.1 rfl (by decide) dX12_readPath_22) hS (fun w14 s13 H locs h hW hS => ?_)
      refine lv_if_ne hx hb dX12_readPath_25 (tgt := 33) rfl (fun hc => ?_) (fun hc => ?_)
      · replace h := h.2 hc
        refine x_aload_n C hl dX12_readPath_33 rfl ?_
        refine x_iload_n C hl dX12_readPath_34 rfl ?_
        refine x_aload_n C hl dX12_readPath_35 rfl ?_
        refine x_get C hW (t := 12) (k := 52) t12 kl_12 (by decide) fl_X12_246 (v := .long (mJ s13 l0 52)) rfl dX12_readPath_36 ?_
        refine y_i (x_run (As := [.int l2, .long (mJ s13 l0 52)]) C hW hS (T_X12_memberNamed l l0 l2 (mJ s13 l0 52) s13 _ h) t12 kl_12 (CW.of yv_X12_memberNamed ml_X12_311) ⟨rfl, rfl, ⟨by decide, by decide⟩, by decide, by decide⟩ rfl hl.1 rfl (by decide) dX12_readPath_39) hS (fun w16 s15 H locs h hW hS => ?_)
        refine x_istore C hl dX12_readPath_42 (by decide) rfl (fun ls hl => ?_)
        refine x_aload_n C hl dX12_readPath_44 rfl ?_
        refine x_get C hW (t := 12) (k := 49) t12 kl_12 (by decide) fl_X12_237 (v := .int (mI s15 l0 49)) rfl dX12_readPath_45 ?_
        refine x_istore C hl dX12_readPath_48 (by decide) rfl (fun ls hl => ?_)
        refine x_iload C hl dX12_readPath_50 rfl ?_
        refine lv_if_ge hx hb dX12_readPath_52 (tgt := 61) rfl (fun hc => ?_) (fun hc => ?_)
        · replace h := h.1 hc
          refine lv_bipush (v := (16 : Int32)) hx hb dX12_readPath_61 (by decide) ?_
          refine x_iload_n C hl dX12_readPath_63 rfl ?_
          refine lv_imul hx hb dX12_readPath_64 ?_
          refine x_iload C hl dX12_readPath_65 rfl ?_
          refine lv_iadd hx hb dX12_readPath_67 ?_
          refine x_istore C hl dX12_readPath_68 (by decide) rfl (fun ls hl => ?_)
          refine x_aload_n C hl dX12_readPath_70 rfl ?_
          refine x_get C hW (t := 12) (k := 86) t12 kl_12 (by decide) fl_X12_211 (v := rv b0 (mR s15 l0 86)) rfl dX12_readPath_71 ?_
          refine x_aload_n C hl dX12_readPath_74 rfl ?_
          refine x_get C hW (t := 12) (k := 87) t12 kl_12 (by decide) fl_X12_529 (v := .int (mI s15 l0 87)) rfl dX12_readPath_75 ?_
          refine x_iload C hl dX12_readPath_78 rfl ?_
          have t17 := h.1
          replace h := h.2
          have v18 := h.1
          replace h := h.2
          refine x_iast C hW hS t17 v18 dX12_readPath_80 (fun H locs hW hS => ?_)
          obtain ⟨s19, e_s19⟩ : ∃ z : Mem, z = (sI s15 (mR s15 l0 86) (mI s15 l0 87).toNatClampNeg w16) := ⟨_, rfl⟩
          replace h := h s19 e_s19
          replace hW : Wd G D tc b0 s19 H := by rw [e_s19]; exact hW
          refine x_aload_n C hl dX12_readPath_81 rfl ?_
          refine lv_dup hx hb dX12_readPath_82 (rv_cat _ _) ?_
          refine x_get C hW (t := 12) (k := 87) t12 kl_12 (by decide) fl_X12_529 (v := .int (mI s19 l0 87)) rfl dX12_readPath_83 ?_
          refine lv_iconst (v := (1 : Int32)) hx hb dX12_readPath_86 (by decide) ?_
          refine lv_iadd hx hb dX12_readPath_87 ?_
          refine x_putI C hW hS (t := 12) (k := 87) t12 kl_12 (by decide) fl_X12_529 rfl rfl rfl rfl dX12_readPath_88 (fun H locs hW hS => ?_)
          obtain ⟨s20, e_s20⟩ : ∃ z : Mem, z = (sI s19 l0 87 ((mI s19 l0 87) + (1 : Int32))) := ⟨_, rfl⟩
          replace h := h s20 e_s20
          replace hW : Wd G D tc b0 s20 H := by rw [e_s20]; exact hW
          refine x_aload_n C hl dX12_readPath_91 rfl ?_
          refine y_v (x_run (As := []) C hW hS (T_X12_advance l l0 s20 _ h) t12 kl_12 (CW.of yv_X12_advance ml_X12_271) ⟨rfl, rfl, ⟨by decide, by decide⟩, by decide, by decide⟩ rfl hl.1 rfl (by decide) dX12_readPath_92) hS (fun s21 H locs h hW hS => ?_)
          refine x_aload_n C hl dX12_readPath_95 rfl ?_
          refine lv_bipush (v := (46 : Int32)) hx hb dX12_readPath_96 (by decide) ?_
          refine y_i (x_run (As := [.int (46 : Int32)]) C hW hS (T_X12_is l l0 (46 : Int32) s21 _ h) t12 kl_12 (CW.of yv_X12_is ml_X12_264) ⟨rfl, rfl, ⟨by decide, by decide⟩, by decide, by decide⟩ rfl hl.1 rfl (by decide) dX12_readPath_98) hS (fun w23 s22 H locs h hW hS => ?_)
          refine x_istore C hl dX12_readPath_101 (by decide) rfl (fun ls hl => ?_)
          refine x_iload C hl dX12_readPath_103 rfl ?_
          refine lv_if_ne hx hb dX12_readPath_105 (tgt := 112) rfl (fun hc => ?_) (fun hc => ?_)
          · replace h := h.2 hc
            exact t_X12_readPath_112 C hr hK16 hS hW (hl.keep [true, true, true, true, true, true, false, true, false, false] rfl) h
          · replace h := h.1 hc
            refine x_iload_n C hl dX12_readPath_108 rfl ?_
            refine lv_if_eq hx hb dX12_readPath_109 (tgt := 131) rfl (fun hc => ?_) (fun hc => ?_)
            · replace h := h.1 hc
              refine x_aload_n C hl dX12_readPath_131 rfl ?_
              refine x_get C hW (t := 12) (k := 9) t12 kl_12 (by decide) fl_X12_32 (v := rv b0 (mR s22 l0 9)) rfl dX12_readPath_132 ?_
              refine x_iload C hl dX12_readPath_135 rfl ?_
              have t24 := h.1
              replace h := h.2
              have v25 := h.1
              replace h := h.2
              refine x_iald C hW t24 v25 dX12_readPath_137 ?_
              refine lv_iconst (v := (4 : Int32)) hx hb dX12_readPath_138 (by decide) ?_
              refine lv_icmp_ge hx hb dX12_readPath_139 (tgt := 146) rfl (fun hc => ?_) (fun hc => ?_)
              · replace h := h.1 hc
                refine lv_iconst (v := (0 : Int32)) hx hb dX12_readPath_146 (by decide) ?_
                exact t_X12_readPath_147 C hr hK16 hS hW (hl.keep [true, true, true, true, true, true, false, true, false, false] rfl) h
              · replace h := h.2 hc
                refine lv_iconst (v := (1 : Int32)) hx hb dX12_readPath_142 (by decide) ?_
                refine lv_goto hx hb dX12_readPath_143 (tgt := 147) rfl ?_
                exact t_X12_readPath_147 C hr hK16 hS hW (hl.keep [true, true, true, true, true, true, false, true, false, false] rfl) h
            · replace h := h.2 hc
              exact t_X12_readPath_112 C hr hK16 hS hW (hl.keep [true, true, true, true, true, true, false, true, false, false] rfl) h
        · replace h := h.2 hc
          refine x_aload_n C hl dX12_readPath_55 rfl ?_
          refine lv_iconst (v := (3 : Int32)) hx hb dX12_readPath_56 (by decide) ?_
          refine y_i (x_run (As := [.int (3 : Int32)]) C hW hS (T_X12_fails l l0 (3 : Int32) s15 _ h) t12 kl_12 (CW.of yv_X12_fails ml_X12_261) ⟨rfl, rfl, ⟨by decide, by decide⟩, by decide, by decide⟩ rfl hl.1 rfl (by decide) dX12_readPath_57) hS (fun w27 s26 H locs h hW hS => ?_)
          exact r_z C hr hW hS h.1 h.2 dX12_readPath_60
      · replace h := h.1 hc
        refine x_aload_n C hl dX12_readPath_28 rfl ?_
        refine y_i (x_run (As := []) C hW hS (T_X12_wrong l l0 s13 _ h) t12 kl_12 (CW.of yv_X12_wrong ml_X12_267) ⟨rfl, rfl, ⟨by decide, by decide⟩, by decide, by decide⟩ rfl hl.1 rfl (by decide) dX12_readPath_29) hS (fun w29 s28 H locs h hW hS => ?_)
        exact r_z C hr hW hS h.1 h.2 dX12_readPath_32
set_option maxRecDepth 20000 in
set_option maxHeartbeats 4000000 in
theorem t_X12_readPath_16 {p : Program} {l : Launch} {e : Env} {s : State} {m : MethodId} {args : Array Value} {below : List Frame} {meth : Method} {c : Code} {H : Heap} {locs : List Loc} {D : va_G} {tc : Nat → ClassId} {b0 : Nat} {ls : Array Slot} {G : Lay} {Qx : Int32 → Mem → Prop} {l0 : Nat} {l1 : Int32} {l2 : Int32} {l3 : Int32} {l4 : Int32} {l5 : Int32}  {σ : Mem} (C : Cx p s m args meth c cX12_readPath RX12 10 D tc b0) (hr : meth.sig.returnType = (some FieldType.boolean)) (hS : va_S (AA b0) s.heap H locs) (hW : Wd G D tc b0 σ H) (hl : hL b0 ls 10 [some (.inr (.inr l0)), some (.inl l1), some (.inl l2), some (.inl l3), some (.inl l4), some (.inl l5), none, none, none, none]) (h : X_X12_readPath_16 G Qx l0 l1 l2 l3 l4 l5 σ) : W p l e rm_X12_readPath s m args below meth c H locs 0 0 (MQ below (va_Qi Qx (fun u t => Pw G D tc b0 u t) (AA b0)) args s 0 0 (AA b0)) (F0 m 16 ls []) := by
  obtain ⟨n, h⟩ := h
  exact t_X12_readPath_16_n C hr n l2 l4 l5 σ H locs ls hS hW hl h
set_option maxRecDepth 20000 in
set_option maxHeartbeats 4000000 in
theorem t_X12_readPath_0 {p : Program} {l : Launch} {e : Env} {s : State} {m : MethodId} {args : Array Value} {below : List Frame} {meth : Method} {c : Code} {H : Heap} {locs : List Loc} {D : va_G} {tc : Nat → ClassId} {b0 : Nat} {ls : Array Slot} {G : Lay} {Qx : Int32 → Mem → Prop} {l0 : Nat} {l1 : Int32}  {σ : Mem} (C : Cx p s m args meth c cX12_readPath RX12 10 D tc b0) (hr : meth.sig.returnType = (some FieldType.boolean)) (hS : va_S (AA b0) s.heap H locs) (hW : Wd G D tc b0 σ H) (hl : hL b0 ls 10 [some (.inr (.inr l0)), some (.inl l1), none, none, none, none, none, none, none, none]) (h : X_X12_readPath_0 G Qx l0 l1  σ) : W p l e rm_X12_readPath s m args below meth c H locs 0 0 (MQ below (va_Qi Qx (fun u t => Pw G D tc b0 u t) (AA b0)) args s 0 0 (AA b0)) (F0 m 0 ls []) := by
  have hx := C.1
  have hb := C.2.1
  unfold X_X12_readPath_0 at h
  refine x_aload_n C hl dX12_readPath_0 rfl ?_
  have t1 := h.1
  replace h := h.2
  refine x_get C hW (t := 12) (k := 89) t1 kl_12 (by decide) fl_X12_526 (v := .int (mI σ l0 89)) rfl dX12_readPath_1 ?_
  refine x_istore_n C hl dX12_readPath_4 (by decide) rfl (fun ls hl => ?_)
  refine x_aload_n C hl dX12_readPath_5 rfl ?_
  refine x_get C hW (t := 12) (k := 87) t1 kl_12 (by decide) fl_X12_529 (v := .int (mI σ l0 87)) rfl dX12_readPath_6 ?_
  refine x_istore_n C hl dX12_readPath_9 (by decide) rfl (fun ls hl => ?_)
  refine lv_iconst (v := (0 : Int32)) hx hb dX12_readPath_10 (by decide) ?_
  refine x_istore C hl dX12_readPath_11 (by decide) rfl (fun ls hl => ?_)
  refine lv_iconst (v := (1 : Int32)) hx hb dX12_readPath_13 (by decide) ?_
  refine x_istore C hl dX12_readPath_14 (by decide) rfl (fun ls hl => ?_)
  exact t_X12_readPath_16 C hr hS hW (hl.keep [true, true, true, true, true, true, false, false, false, false] rfl) h
theorem T_X12_readPath (l : Launch) {G : Lay} {D : va_G} {tc : Nat → ClassId} {b0 : Nat} (l0 : Nat) (l1 : Int32) (σ : Mem) (Qx : Int32 → Mem → Prop) (h : X_X12_readPath G Qx l0 l1 σ) : MI l yX12_readPath cX12_readPath 10 ((some FieldType.boolean)) rm_X12_readPath G D tc b0 [rv b0 l0, .int l1] σ Qx :=
  x_entry (y := yX12_readPath) [.inr (.inr l0), .inl l1] 8 (by decide) (Nat.le_of_ble_eq_true rfl) (fun p e s m args below meth c ls C hr hW hl => t_X12_readPath_0 C hr va_S.rf hW (hl.keep [true, true, false, false, false, false, false, false, false, false] rfl) h)
/-! X12_readTruth -/
set_option maxRecDepth 20000 in
set_option maxHeartbeats 4000000 in
theorem t_X12_readTruth_241 {p : Program} {l : Launch} {e : Env} {s : State} {m : MethodId} {args : Array Value} {below : List Frame} {meth : Method} {c : Code} {H : Heap} {locs : List Loc} {D : va_G} {tc : Nat → ClassId} {b0 : Nat} {ls : Array Slot} {G : Lay} {Qx : Int32 → Mem → Prop} {l0 : Nat} {l1 : Int32} {l2 : Int32}  {K9 : Int32 × Int32 × Mem → Prop} {σ : Mem} (C : Cx p s m args meth c cX12_readTruth RX12 4 D tc b0) (hr : meth.sig.returnType = (some FieldType.boolean)) (hK9 : ∀ (x1 : Int32) (x2 : Int32) (σ : Mem) (H : Heap) (locs : List Loc) (ls : Array Slot), va_S (AA b0) s.heap H locs → Wd G D tc b0 σ H → hL b0 ls 4 [some (.inr (.inr l0)), some (.inl x1), some (.inl x2), none] → K9 (x1, x2, σ) → W p l e rm_X12_readTruth s m args below meth c H locs 0 0 (MQ below (va_Qi Qx (fun u t => Pw G D tc b0 u t) (AA b0)) args s 0 0 (AA b0)) (F0 m 9 ls [])) (hS : va_S (AA b0) s.heap H locs) (hW : Wd G D tc b0 σ H) (hl : hL b0 ls 4 [some (.inr (.inr l0)), some (.inl l1), some (.inl l2), none]) (h : X_X12_readTruth_241 G Qx K9 l0 l1 l2  σ) : W p l e rm_X12_readTruth s m args below meth c H locs 0 0 (MQ below (va_Qi Qx (fun u t => Pw G D tc b0 u t) (AA b0)) args s 0 0 (AA b0)) (F0 m 241 ls []) := by
  have hx := C.1
  have hb := C.2.1
  unfold X_X12_readTruth_241 at h
  refine lv_goto hx hb dX12_readTruth_241 (tgt := 9) rfl ?_
  exact hK9 _ _ _ _ _ _ hS hW (hl.keep [true, true, true, false] rfl) h
set_option maxRecDepth 20000 in
set_option maxHeartbeats 4000000 in
theorem t_X12_readTruth_74 {p : Program} {l : Launch} {e : Env} {s : State} {m : MethodId} {args : Array Value} {below : List Frame} {meth : Method} {c : Code} {H : Heap} {locs : List Loc} {D : va_G} {tc : Nat → ClassId} {b0 : Nat} {ls : Array Slot} {G : Lay} {Qx : Int32 → Mem → Prop} {l0 : Nat} {l1 : Int32} {l2 : Int32} {k0 : Nat} {k1 : Int32} {K9 : Int32 × Int32 × Mem → Prop} {σ : Mem} (C : Cx p s m args meth c cX12_readTruth RX12 4 D tc b0) (hr : meth.sig.returnType = (some FieldType.boolean)) (hK9 : ∀ (x1 : Int32) (x2 : Int32) (σ : Mem) (H : Heap) (locs : List Loc) (ls : Array Slot), va_S (AA b0) s.heap H locs → Wd G D tc b0 σ H → hL b0 ls 4 [some (.inr (.inr l0)), some (.inl x1), some (.inl x2), none] → K9 (x1, x2, σ) → W p l e rm_X12_readTruth s m args below meth c H locs 0 0 (MQ below (va_Qi Qx (fun u t => Pw G D tc b0 u t) (AA b0)) args s 0 0 (AA b0)) (F0 m 9 ls [])) (hS : va_S (AA b0) s.heap H locs) (hW : Wd G D tc b0 σ H) (hl : hL b0 ls 4 [some (.inr (.inr l0)), some (.inl l1), some (.inl l2), none]) (h : X_X12_readTruth_74 G Qx K9 l0 l1 l2 k0 k1 σ) : W p l e rm_X12_readTruth s m args below meth c H locs 0 0 (MQ below (va_Qi Qx (fun u t => Pw G D tc b0 u t) (AA b0)) args s 0 0 (AA b0)) (F0 m 74 ls [.int k1, rv b0 k0]) := by
  have hx := C.1
  have hb := C.2.1
  unfold X_X12_readTruth_74 at h
  have t1 := h.1
  replace h := h.2
  refine y_v (x_run (As := [.int k1]) C hW hS (T_X12_waitsToo l k0 k1 σ _ h) t1 kl_12 (CW.of yv_X12_waitsToo ml_X12_516) ⟨rfl, rfl, ⟨by decide, by decide⟩, by decide, by decide⟩ rfl hl.1 rfl (by decide) dX12_readTruth_74) hS (fun s2 H locs h hW hS => ?_)
  refine lv_goto hx hb dX12_readTruth_77 (tgt := 241) rfl ?_
  exact t_X12_readTruth_241 C hr hK9 hS hW (hl.keep [true, true, true, false] rfl) h
set_option maxRecDepth 20000 in
set_option maxHeartbeats 4000000 in
theorem t_X12_readTruth_37 {p : Program} {l : Launch} {e : Env} {s : State} {m : MethodId} {args : Array Value} {below : List Frame} {meth : Method} {c : Code} {H : Heap} {locs : List Loc} {D : va_G} {tc : Nat → ClassId} {b0 : Nat} {ls : Array Slot} {G : Lay} {Qx : Int32 → Mem → Prop} {l0 : Nat} {l1 : Int32} {l2 : Int32} {l3 : Int32}  {K9 : Int32 × Int32 × Mem → Prop} {σ : Mem} (C : Cx p s m args meth c cX12_readTruth RX12 4 D tc b0) (hr : meth.sig.returnType = (some FieldType.boolean)) (hK9 : ∀ (x1 : Int32) (x2 : Int32) (σ : Mem) (H : Heap) (locs : List Loc) (ls : Array Slot), va_S (AA b0) s.heap H locs → Wd G D tc b0 σ H → hL b0 ls 4 [some (.inr (.inr l0)), some (.inl x1), some (.inl x2), none] → K9 (x1, x2, σ) → W p l e rm_X12_readTruth s m args below meth c H locs 0 0 (MQ below (va_Qi Qx (fun u t => Pw G D tc b0 u t) (AA b0)) args s 0 0 (AA b0)) (F0 m 9 ls [])) (hS : va_S (AA b0) s.heap H locs) (hW : Wd G D tc b0 σ H) (hl : hL b0 ls 4 [some (.inr (.inr l0)), some (.inl l1), some (.inl l2), some (.inl l3)]) (h : X_X12_readTruth_37 G Qx K9 l0 l1 l2 l3  σ) : W p l e rm_X12_readTruth s m args below meth c H locs 0 0 (MQ below (va_Qi Qx (fun u t => Pw G D tc b0 u t) (AA b0)) args s 0 0 (AA b0)) (F0 m 37 ls []) := by
  have hx := C.1
  have hb := C.2.1
  unfold X_X12_readTruth_37 at h
  refine x_aload_n C hl dX12_readTruth_37 rfl ?_
  have t1 := h.1
  replace h := h.2
  refine x_get C hW (t := 12) (k := 88) t1 kl_12 (by decide) fl_X12_513 (v := .int (mI σ l0 88)) rfl dX12_readTruth_38 ?_
  refine lv_bipush (v := (20 : Int32)) hx hb dX12_readTruth_41 (by decide) ?_
  refine lv_icmp_ne hx hb dX12_readTruth_43 (tgt := 52) rfl (fun hc => ?_) (fun hc => ?_)
  · replace h := h.2 hc
    refine x_aload_n C hl dX12_readTruth_52 rfl ?_
    refine lv_dup hx hb dX12_readTruth_53 (rv_cat _ _) ?_
    refine x_get C hW (t := 12) (k := 88) t1 kl_12 (by decide) fl_X12_513 (v := .int (mI σ l0 88)) rfl dX12_readTruth_54 ?_
    refine lv_iconst (v := (1 : Int32)) hx hb dX12_readTruth_57 (by decide) ?_
    refine lv_iadd hx hb dX12_readTruth_58 ?_
    refine x_putI C hW hS (t := 12) (k := 88) t1 kl_12 (by decide) fl_X12_513 rfl rfl rfl rfl dX12_readTruth_59 (fun H locs hW hS => ?_)
    obtain ⟨s2, e_s2⟩ : ∃ z : Mem, z = (sI σ l0 88 ((mI σ l0 88) + (1 : Int32))) := ⟨_, rfl⟩
    replace h := h s2 e_s2
    replace hW : Wd G D tc b0 s2 H := by rw [e_s2]; exact hW
    refine x_aload_n C hl dX12_readTruth_62 rfl ?_
    refine x_iload_n C hl dX12_readTruth_63 rfl ?_
    refine lv_bipush (v := (21 : Int32)) hx hb dX12_readTruth_64 (by decide) ?_
    refine lv_icmp_ne hx hb dX12_readTruth_66 (tgt := 73) rfl (fun hc => ?_) (fun hc => ?_)
    · replace h := h.2 hc
      refine lv_iconst (v := (5 : Int32)) hx hb dX12_readTruth_73 (by decide) ?_
      exact t_X12_readTruth_74 C hr hK9 hS hW (hl.keep [true, true, true, false] rfl) h
    · replace h := h.1 hc
      refine lv_iconst (v := (2 : Int32)) hx hb dX12_readTruth_69 (by decide) ?_
      refine lv_goto hx hb dX12_readTruth_70 (tgt := 74) rfl ?_
      exact t_X12_readTruth_74 C hr hK9 hS hW (hl.keep [true, true, true, false] rfl) h
  · replace h := h.1 hc
    refine x_aload_n C hl dX12_readTruth_46 rfl ?_
    refine lv_iconst (v := (4 : Int32)) hx hb dX12_readTruth_47 (by decide) ?_
    refine y_i (x_run (As := [.int (4 : Int32)]) C hW hS (T_X12_fails l l0 (4 : Int32) σ _ h) t1 kl_12 (CW.of yv_X12_fails ml_X12_261) ⟨rfl, rfl, ⟨by decide, by decide⟩, by decide, by decide⟩ rfl hl.1 rfl (by decide) dX12_readTruth_48) hS (fun w4 s3 H locs h hW hS => ?_)
    exact r_z C hr hW hS h.1 h.2 dX12_readTruth_51
set_option maxRecDepth 20000 in
set_option maxHeartbeats 4000000 in
theorem t_X12_readTruth_106 {p : Program} {l : Launch} {e : Env} {s : State} {m : MethodId} {args : Array Value} {below : List Frame} {meth : Method} {c : Code} {H : Heap} {locs : List Loc} {D : va_G} {tc : Nat → ClassId} {b0 : Nat} {ls : Array Slot} {G : Lay} {Qx : Int32 → Mem → Prop} {l0 : Nat} {l2 : Int32} {k0 : Nat} {k1 : Int32} {K9 : Int32 × Int32 × Mem → Prop} {σ : Mem} (C : Cx p s m args meth c cX12_readTruth RX12 4 D tc b0) (hr : meth.sig.returnType = (some FieldType.boolean)) (hK9 : ∀ (x1 : Int32) (x2 : Int32) (σ : Mem) (H : Heap) (locs : List Loc) (ls : Array Slot), va_S (AA b0) s.heap H locs → Wd G D tc b0 σ H → hL b0 ls 4 [some (.inr (.inr l0)), some (.inl x1), some (.inl x2), none] → K9 (x1, x2, σ) → W p l e rm_X12_readTruth s m args below meth c H locs 0 0 (MQ below (va_Qi Qx (fun u t => Pw G D tc b0 u t) (AA b0)) args s 0 0 (AA b0)) (F0 m 9 ls [])) (hS : va_S (AA b0) s.heap H locs) (hW : Wd G D tc b0 σ H) (hl : hL b0 ls 4 [some (.inr (.inr l0)), none, some (.inl l2), none]) (h : X_X12_readTruth_106 G Qx K9 l0 l2 k0 k1 σ) : W p l e rm_X12_readTruth s m args below meth c H locs 0 0 (MQ below (va_Qi Qx (fun u t => Pw G D tc b0 u t) (AA b0)) args s 0 0 (AA b0)) (F0 m 106 ls [.int k1, rv b0 k0]) := by
  have hx := C.1
  have hb := C.2.1
  unfold X_X12_readTruth_106 at h
  have t1 := h.1
  replace h := h.2
  refine y_i (x_run (As := [.int k1]) C hW hS (T_X12_readPath l k0 k1 σ _ h) t1 kl_12 (CW.of yv_X12_readPath ml_X12_519) ⟨rfl, rfl, ⟨by decide, by decide⟩, by decide, by decide⟩ rfl hl.1 rfl (by decide) dX12_readTruth_106) hS (fun w3 s2 H locs h hW hS => ?_)
  refine lv_if_ne hx hb dX12_readTruth_109 (tgt := 114) rfl (fun hc => ?_) (fun hc => ?_)
  · replace h := h.2 hc
    refine x_aload_n C hl dX12_readTruth_114 rfl ?_
    have t4 := h.1
    replace h := h.2
    refine y_v (x_run (As := []) C hW hS (T_X12_endsNot l l0 s2 _ h) t4 kl_12 (CW.of yv_X12_endsNot ml_X12_523) ⟨rfl, rfl, ⟨by decide, by decide⟩, by decide, by decide⟩ rfl hl.1 rfl (by decide) dX12_readTruth_115) hS (fun s5 H locs h hW hS => ?_)
    refine lv_iconst (v := (0 : Int32)) hx hb dX12_readTruth_118 (by decide) ?_
    refine x_istore_n C hl dX12_readTruth_119 (by decide) rfl (fun ls hl => ?_)
    refine lv_goto hx hb dX12_readTruth_120 (tgt := 241) rfl ?_
    exact t_X12_readTruth_241 C hr hK9 hS hW (hl.keep [true, true, true, false] rfl) h
  · replace h := h.1 hc
    refine lv_iconst (v := (0 : Int32)) hx hb dX12_readTruth_112 (by decide) ?_
    exact r_z C hr hW hS h.1 h.2 dX12_readTruth_113
set_option maxRecDepth 20000 in
set_option maxHeartbeats 4000000 in
theorem t_X12_readTruth_94 {p : Program} {l : Launch} {e : Env} {s : State} {m : MethodId} {args : Array Value} {below : List Frame} {meth : Method} {c : Code} {H : Heap} {locs : List Loc} {D : va_G} {tc : Nat → ClassId} {b0 : Nat} {ls : Array Slot} {G : Lay} {Qx : Int32 → Mem → Prop} {l0 : Nat} {l2 : Int32} {l3 : Int32}  {K9 : Int32 × Int32 × Mem → Prop} {σ : Mem} (C : Cx p s m args meth c cX12_readTruth RX12 4 D tc b0) (hr : meth.sig.returnType = (some FieldType.boolean)) (hK9 : ∀ (x1 : Int32) (x2 : Int32) (σ : Mem) (H : Heap) (locs : List Loc) (ls : Array Slot), va_S (AA b0) s.heap H locs → Wd G D tc b0 σ H → hL b0 ls 4 [some (.inr (.inr l0)), some (.inl x1), some (.inl x2), none] → K9 (x1, x2, σ) → W p l e rm_X12_readTruth s m args below meth c H locs 0 0 (MQ below (va_Qi Qx (fun u t => Pw G D tc b0 u t) (AA b0)) args s 0 0 (AA b0)) (F0 m 9 ls [])) (hS : va_S (AA b0) s.heap H locs) (hW : Wd G D tc b0 σ H) (hl : hL b0 ls 4 [some (.inr (.inr l0)), none, some (.inl l2), some (.inl l3)]) (h : X_X12_readTruth_94 G Qx K9 l0 l2 l3  σ) : W p l e rm_X12_readTruth s m args below meth c H locs 0 0 (MQ below (va_Qi Qx (fun u t => Pw G D tc b0 u t) (AA b0)) args s 0 0 (AA b0)) (F0 m 94 ls []) := by
  have hx := C.1
  have hb := C.2.1
  unfold X_X12_readTruth_94 at h
  refine x_aload_n C hl dX12_readTruth_94 rfl ?_
  refine x_iload_n C hl dX12_readTruth_95 rfl ?_
  refine lv_bipush (v := (22 : Int32)) hx hb dX12_readTruth_96 (by decide) ?_
  refine lv_icmp_ne hx hb dX12_readTruth_98 (tgt := 105) rfl (fun hc => ?_) (fun hc => ?_)
  · replace h := h.2 hc
    refine lv_iconst (v := (0 : Int32)) hx hb dX12_readTruth_105 (by decide) ?_
    exact t_X12_readTruth_106 C hr hK9 hS hW (hl.keep [true, false, true, false] rfl) h
  · replace h := h.1 hc
    refine lv_iconst (v := (1 : Int32)) hx hb dX12_readTruth_101 (by decide) ?_
    refine lv_goto hx hb dX12_readTruth_102 (tgt := 106) rfl ?_
    exact t_X12_readTruth_106 C hr hK9 hS hW (hl.keep [true, false, true, false] rfl) h
set_option maxRecDepth 20000 in
set_option maxHeartbeats 4000000 in
theorem t_X12_readTruth_129_n {p : Program} {l : Launch} {e : Env} {s : State} {m : MethodId} {args : Array Value} {below : List Frame} {meth : Method} {c : Code} {D : va_G} {tc : Nat → ClassId} {b0 : Nat} {G : Lay} {Qx : Int32 → Mem → Prop} {l0 : Nat} {l2 : Int32} {K9 : Int32 × Int32 × Mem → Prop} (C : Cx p s m args meth c cX12_readTruth RX12 4 D tc b0) (hr : meth.sig.returnType = (some FieldType.boolean)) (hK9 : ∀ (x1 : Int32) (x2 : Int32) (σ : Mem) (H : Heap) (locs : List Loc) (ls : Array Slot), va_S (AA b0) s.heap H locs → Wd G D tc b0 σ H → hL b0 ls 4 [some (.inr (.inr l0)), some (.inl x1), some (.inl x2), none] → K9 (x1, x2, σ) → W p l e rm_X12_readTruth s m args below meth c H locs 0 0 (MQ below (va_Qi Qx (fun u t => Pw G D tc b0 u t) (AA b0)) args s 0 0 (AA b0)) (F0 m 9 ls [])) (n : Nat) : ∀  (σ : Mem) (H : Heap) (locs : List Loc) (ls : Array Slot), va_S (AA b0) s.heap H locs → Wd G D tc b0 σ H → hL b0 ls 4 [some (.inr (.inr l0)), none, some (.inl l2), none] → Lp (X_X12_readTruth_129_s G Qx K9 l0 l2) n (σ) → W p l e rm_X12_readTruth s m args below meth c H locs 0 0 (MQ below (va_Qi Qx (fun u t => Pw G D tc b0 u t) (AA b0)) args s 0 0 (AA b0)) (F0 m 129 ls []) := by
  have hx := C.1
  have hb := C.2.1
  induction n with
  | zero => intro  σ H locs ls hS hW hl h; exact False.elim h
  | succ n hK129 =>
    intro  σ H locs ls hS hW hl h
    replace h : X_X12_readTruth_129_s G Qx K9 l0 l2 (Lp (X_X12_readTruth_129_s G Qx K9 l0 l2) n) (σ) := h
    unfold X_X12_readTruth_129_s at h
    refine x_aload_n C hl dX12_readTruth_129 rfl ?_
    refine lv_iconst (v := (3 : Int32)) hx hb dX12_readTruth_130 (by decide) ?_
    have t1 := h.1
    replace h := h.2
    refine y_i (x_run (As := [.int (3 : Int32)]) C hW hS (T_X12_isWaiting l l0 (3 : Int32) σ _ h) t1 kl_12 (CW.of yv_X12_isWaiting ml_X12_507) ⟨rfl, rfl, ⟨by decide, by decide⟩, by decide, by decide⟩ rfl hl.1 rfl (by decide) dX12_readTruth_131) hS (fun w3 s2 H locs h hW hS => ?_)
    refine lv_if_eq hx hb dX12_readTruth_134 (tgt := 144) rfl (fun hc => ?_) (fun hc => ?_)
    · replace h := h.1 hc
      refine x_aload_n C hl dX12_readTruth_144 rfl ?_
      refine lv_iconst (v := (3 : Int32)) hx hb dX12_readTruth_145 (by decide) ?_
      refine y_v (x_run (As := [.int (3 : Int32)]) C hW hS (T_X12_waitsToo l l0 (3 : Int32) s2 _ h) t1 kl_12 (CW.of yv_X12_waitsToo ml_X12_516) ⟨rfl, rfl, ⟨by decide, by decide⟩, by decide, by decide⟩ rfl hl.1 rfl (by decide) dX12_readTruth_146) hS (fun s4 H locs h hW hS => ?_)
      refine lv_iconst (v := (1 : Int32)) hx hb dX12_readTruth_149 (by decide) ?_
      refine x_istore_n C hl dX12_readTruth_150 (by decide) rfl (fun ls hl => ?_)
      refine lv_goto hx hb dX12_readTruth_151 (tgt := 241) rfl ?_
      exact t_X12_readTruth_241 C hr hK9 hS hW (hl.keep [true, true, true, false] rfl) h
    · replace h := h.2 hc
      refine x_aload_n C hl dX12_readTruth_137 rfl ?_
      refine y_v (x_run (As := []) C hW hS (T_X12_goes l l0 s2 _ h) t1 kl_12 (CW.of yv_X12_goes ml_X12_510) ⟨rfl, rfl, ⟨by decide, by decide⟩, by decide, by decide⟩ rfl hl.1 rfl (by decide) dX12_readTruth_138) hS (fun s5 H locs h hW hS => ?_)
      refine lv_goto hx hb dX12_readTruth_141 (tgt := 129) rfl ?_
      exact hK129 _ _ _ _ hS hW (hl.keep [true, false, true, false] rfl) h
set_option maxRecDepth 20000 in
set_option maxHeartbeats 4000000 in
theorem t_X12_readTruth_129 {p : Program} {l : Launch} {e : Env} {s : State} {m : MethodId} {args : Array Value} {below : List Frame} {meth : Method} {c : Code} {H : Heap} {locs : List Loc} {D : va_G} {tc : Nat → ClassId} {b0 : Nat} {ls : Array Slot} {G : Lay} {Qx : Int32 → Mem → Prop} {l0 : Nat} {l2 : Int32}  {K9 : Int32 × Int32 × Mem → Prop} {σ : Mem} (C : Cx p s m args meth c cX12_readTruth RX12 4 D tc b0) (hr : meth.sig.returnType = (some FieldType.boolean)) (hK9 : ∀ (x1 : Int32) (x2 : Int32) (σ : Mem) (H : Heap) (locs : List Loc) (ls : Array Slot), va_S (AA b0) s.heap H locs → Wd G D tc b0 σ H → hL b0 ls 4 [some (.inr (.inr l0)), some (.inl x1), some (.inl x2), none] → K9 (x1, x2, σ) → W p l e rm_X12_readTruth s m args below meth c H locs 0 0 (MQ below (va_Qi Qx (fun u t => Pw G D tc b0 u t) (AA b0)) args s 0 0 (AA b0)) (F0 m 9 ls [])) (hS : va_S (AA b0) s.heap H locs) (hW : Wd G D tc b0 σ H) (hl : hL b0 ls 4 [some (.inr (.inr l0)), none, some (.inl l2), none]) (h : X_X12_readTruth_129 G Qx K9 l0 l2 σ) : W p l e rm_X12_readTruth s m args below meth c H locs 0 0 (MQ below (va_Qi Qx (fun u t => Pw G D tc b0 u t) (AA b0)) args s 0 0 (AA b0)) (F0 m 129 ls []) := by
  obtain ⟨n, h⟩ := h
  exact t_X12_readTruth_129_n C hr hK9 n  σ H locs ls hS hW hl h
set_option maxRecDepth 20000 in
set_option maxHeartbeats 4000000 in
theorem t_X12_readTruth_170 {p : Program} {l : Launch} {e : Env} {s : State} {m : MethodId} {args : Array Value} {below : List Frame} {meth : Method} {c : Code} {H : Heap} {locs : List Loc} {D : va_G} {tc : Nat → ClassId} {b0 : Nat} {ls : Array Slot} {G : Lay} {Qx : Int32 → Mem → Prop} {l0 : Nat} {l1 : Int32} {l2 : Int32} {l3 : Int32}  {K9 : Int32 × Int32 × Mem → Prop} {K154 : Mem → Prop} {σ : Mem} (C : Cx p s m args meth c cX12_readTruth RX12 4 D tc b0) (hr : meth.sig.returnType = (some FieldType.boolean)) (hK9 : ∀ (x1 : Int32) (x2 : Int32) (σ : Mem) (H : Heap) (locs : List Loc) (ls : Array Slot), va_S (AA b0) s.heap H locs → Wd G D tc b0 σ H → hL b0 ls 4 [some (.inr (.inr l0)), some (.inl x1), some (.inl x2), none] → K9 (x1, x2, σ) → W p l e rm_X12_readTruth s m args below meth c H locs 0 0 (MQ below (va_Qi Qx (fun u t => Pw G D tc b0 u t) (AA b0)) args s 0 0 (AA b0)) (F0 m 9 ls [])) (hK154 : ∀  (σ : Mem) (H : Heap) (locs : List Loc) (ls : Array Slot), va_S (AA b0) s.heap H locs → Wd G D tc b0 σ H → hL b0 ls 4 [some (.inr (.inr l0)), some (.inl l1), some (.inl l2), some (.inl l3)] → K154 (σ) → W p l e rm_X12_readTruth s m args below meth c H locs 0 0 (MQ below (va_Qi Qx (fun u t => Pw G D tc b0 u t) (AA b0)) args s 0 0 (AA b0)) (F0 m 154 ls [])) (hS : va_S (AA b0) s.heap H locs) (hW : Wd G D tc b0 σ H) (hl : hL b0 ls 4 [some (.inr (.inr l0)), some (.inl l1), some (.inl l2), some (.inl l3)]) (h : X_X12_readTruth_170 G Qx K9 K154 l0 l1 l2 l3  σ) : W p l e rm_X12_readTruth s m args below meth c H locs 0 0 (MQ below (va_Qi Qx (fun u t => Pw G D tc b0 u t) (AA b0)) args s 0 0 (AA b0)) (F0 m 170 ls []) := by
  have hx := C.1
  have hb := C.2.1
  unfold X_X12_readTruth_170 at h
  refine x_aload_n C hl dX12_readTruth_170 rfl ?_
  have t1 := h.1
  replace h := h.2
  refine y_v (x_run (As := []) C hW hS (T_X12_goes l l0 σ _ h) t1 kl_12 (CW.of yv_X12_goes ml_X12_510) ⟨rfl, rfl, ⟨by decide, by decide⟩, by decide, by decide⟩ rfl hl.1 rfl (by decide) dX12_readTruth_171) hS (fun s2 H locs h hW hS => ?_)
  refine lv_goto hx hb dX12_readTruth_174 (tgt := 154) rfl ?_
  exact hK154 _ _ _ _ hS hW (hl.keep [true, true, true, true] rfl) h
set_option maxRecDepth 20000 in
set_option maxHeartbeats 4000000 in
theorem t_X12_readTruth_154_n {p : Program} {l : Launch} {e : Env} {s : State} {m : MethodId} {args : Array Value} {below : List Frame} {meth : Method} {c : Code} {D : va_G} {tc : Nat → ClassId} {b0 : Nat} {G : Lay} {Qx : Int32 → Mem → Prop} {l0 : Nat} {l1 : Int32} {l2 : Int32} {l3 : Int32} {K9 : Int32 × Int32 × Mem → Prop} (C : Cx p s m args meth c cX12_readTruth RX12 4 D tc b0) (hr : meth.sig.returnType = (some FieldType.boolean)) (hK9 : ∀ (x1 : Int32) (x2 : Int32) (σ : Mem) (H : Heap) (locs : List Loc) (ls : Array Slot), va_S (AA b0) s.heap H locs → Wd G D tc b0 σ H → hL b0 ls 4 [some (.inr (.inr l0)), some (.inl x1), some (.inl x2), none] → K9 (x1, x2, σ) → W p l e rm_X12_readTruth s m args below meth c H locs 0 0 (MQ below (va_Qi Qx (fun u t => Pw G D tc b0 u t) (AA b0)) args s 0 0 (AA b0)) (F0 m 9 ls [])) (n : Nat) : ∀  (σ : Mem) (H : Heap) (locs : List Loc) (ls : Array Slot), va_S (AA b0) s.heap H locs → Wd G D tc b0 σ H → hL b0 ls 4 [some (.inr (.inr l0)), some (.inl l1), some (.inl l2), some (.inl l3)] → Lp (X_X12_readTruth_154_s G Qx K9 l0 l1 l2 l3) n (σ) → W p l e rm_X12_readTruth s m args below meth c H locs 0 0 (MQ below (va_Qi Qx (fun u t => Pw G D tc b0 u t) (AA b0)) args s 0 0 (AA b0)) (F0 m 154 ls []) := by
  have hx := C.1
  have hb := C.2.1
  induction n with
  | zero => intro  σ H locs ls hS hW hl h; exact False.elim h
  | succ n hK154 =>
    intro  σ H locs ls hS hW hl h
    replace h : X_X12_readTruth_154_s G Qx K9 l0 l1 l2 l3 (Lp (X_X12_readTruth_154_s G Qx K9 l0 l1 l2 l3) n) (σ) := h
    unfold X_X12_readTruth_154_s at h
    refine x_aload_n C hl dX12_readTruth_154 rfl ?_
    refine lv_iconst (v := (3 : Int32)) hx hb dX12_readTruth_155 (by decide) ?_
    have t1 := h.1
    replace h := h.2
    refine y_i (x_run (As := [.int (3 : Int32)]) C hW hS (T_X12_isWaiting l l0 (3 : Int32) σ _ h) t1 kl_12 (CW.of yv_X12_isWaiting ml_X12_507) ⟨rfl, rfl, ⟨by decide, by decide⟩, by decide, by decide⟩ rfl hl.1 rfl (by decide) dX12_readTruth_156) hS (fun w3 s2 H locs h hW hS => ?_)
    refine lv_if_ne hx hb dX12_readTruth_159 (tgt := 170) rfl (fun hc => ?_) (fun hc => ?_)
    · replace h := h.2 hc
      exact t_X12_readTruth_170 C hr hK9 hK154 hS hW (hl.keep [true, true, true, true] rfl) h
    · replace h := h.1 hc
      refine x_aload_n C hl dX12_readTruth_162 rfl ?_
      refine lv_iconst (v := (4 : Int32)) hx hb dX12_readTruth_163 (by decide) ?_
      refine y_i (x_run (As := [.int (4 : Int32)]) C hW hS (T_X12_isWaiting l l0 (4 : Int32) s2 _ h) t1 kl_12 (CW.of yv_X12_isWaiting ml_X12_507) ⟨rfl, rfl, ⟨by decide, by decide⟩, by decide, by decide⟩ rfl hl.1 rfl (by decide) dX12_readTruth_164) hS (fun w5 s4 H locs h hW hS => ?_)
      refine lv_if_eq hx hb dX12_readTruth_167 (tgt := 177) rfl (fun hc => ?_) (fun hc => ?_)
      · replace h := h.1 hc
        refine x_iload_n C hl dX12_readTruth_177 rfl ?_
        refine lv_bipush (v := (19 : Int32)) hx hb dX12_readTruth_178 (by decide) ?_
        refine lv_icmp_ne hx hb dX12_readTruth_180 (tgt := 193) rfl (fun hc => ?_) (fun hc => ?_)
        · replace h := h.2 hc
          refine x_aload_n C hl dX12_readTruth_193 rfl ?_
          refine lv_iconst (v := (5 : Int32)) hx hb dX12_readTruth_194 (by decide) ?_
          refine y_i (x_run (As := [.int (5 : Int32)]) C hW hS (T_X12_isWaiting l l0 (5 : Int32) s4 _ h) t1 kl_12 (CW.of yv_X12_isWaiting ml_X12_507) ⟨rfl, rfl, ⟨by decide, by decide⟩, by decide, by decide⟩ rfl hl.1 rfl (by decide) dX12_readTruth_195) hS (fun w7 s6 H locs h hW hS => ?_)
          refine lv_if_eq hx hb dX12_readTruth_198 (tgt := 239) rfl (fun hc => ?_) (fun hc => ?_)
          · replace h := h.1 hc
            refine lv_iconst (v := (0 : Int32)) hx hb dX12_readTruth_239 (by decide) ?_
            refine x_istore_n C hl dX12_readTruth_240 (by decide) rfl (fun ls hl => ?_)
            exact t_X12_readTruth_241 C hr hK9 hS hW (hl.keep [true, true, true, false] rfl) h
          · replace h := h.2 hc
            refine x_aload_n C hl dX12_readTruth_201 rfl ?_
            refine lv_bipush (v := (41 : Int32)) hx hb dX12_readTruth_202 (by decide) ?_
            refine y_i (x_run (As := [.int (41 : Int32)]) C hW hS (T_X12_needs l l0 (41 : Int32) s6 _ h) t1 kl_12 (CW.of yv_X12_needs ml_X12_326) ⟨rfl, rfl, ⟨by decide, by decide⟩, by decide, by decide⟩ rfl hl.1 rfl (by decide) dX12_readTruth_204) hS (fun w9 s8 H locs h hW hS => ?_)
            refine lv_if_ne hx hb dX12_readTruth_207 (tgt := 212) rfl (fun hc => ?_) (fun hc => ?_)
            · replace h := h.2 hc
              refine x_aload_n C hl dX12_readTruth_212 rfl ?_
              refine lv_dup hx hb dX12_readTruth_213 (rv_cat _ _) ?_
              refine x_get C hW (t := 12) (k := 93) t1 kl_12 (by decide) fl_X12_500 (v := .int (mI s8 l0 93)) rfl dX12_readTruth_214 ?_
              refine lv_iconst (v := (1 : Int32)) hx hb dX12_readTruth_217 (by decide) ?_
              refine lv_isub hx hb dX12_readTruth_218 ?_
              refine x_putI C hW hS (t := 12) (k := 93) t1 kl_12 (by decide) fl_X12_500 rfl rfl rfl rfl dX12_readTruth_219 (fun H locs hW hS => ?_)
              obtain ⟨s10, e_s10⟩ : ∃ z : Mem, z = (sI s8 l0 93 ((mI s8 l0 93) - (1 : Int32))) := ⟨_, rfl⟩
              replace h := h s10 e_s10
              replace hW : Wd G D tc b0 s10 H := by rw [e_s10]; exact hW
              refine x_aload_n C hl dX12_readTruth_222 rfl ?_
              refine lv_dup hx hb dX12_readTruth_223 (rv_cat _ _) ?_
              refine x_get C hW (t := 12) (k := 88) t1 kl_12 (by decide) fl_X12_513 (v := .int (mI s10 l0 88)) rfl dX12_readTruth_224 ?_
              refine lv_iconst (v := (1 : Int32)) hx hb dX12_readTruth_227 (by decide) ?_
              refine lv_isub hx hb dX12_readTruth_228 ?_
              refine x_putI C hW hS (t := 12) (k := 88) t1 kl_12 (by decide) fl_X12_513 rfl rfl rfl rfl dX12_readTruth_229 (fun H locs hW hS => ?_)
              obtain ⟨s11, e_s11⟩ : ∃ z : Mem, z = (sI s10 l0 88 ((mI s10 l0 88) - (1 : Int32))) := ⟨_, rfl⟩
              replace h := h s11 e_s11
              replace hW : Wd G D tc b0 s11 H := by rw [e_s11]; exact hW
              refine x_aload_n C hl dX12_readTruth_232 rfl ?_
              refine y_v (x_run (As := []) C hW hS (T_X12_endsNot l l0 s11 _ h) t1 kl_12 (CW.of yv_X12_endsNot ml_X12_523) ⟨rfl, rfl, ⟨by decide, by decide⟩, by decide, by decide⟩ rfl hl.1 rfl (by decide) dX12_readTruth_233) hS (fun s12 H locs h hW hS => ?_)
              refine lv_goto hx hb dX12_readTruth_236 (tgt := 241) rfl ?_
              exact t_X12_readTruth_241 C hr hK9 hS hW (hl.keep [true, true, true, false] rfl) h
            · replace h := h.1 hc
              refine lv_iconst (v := (0 : Int32)) hx hb dX12_readTruth_210 (by decide) ?_
              exact r_z C hr hW hS h.1 h.2 dX12_readTruth_211
        · replace h := h.1 hc
          refine x_aload_n C hl dX12_readTruth_183 rfl ?_
          refine lv_iconst (v := (4 : Int32)) hx hb dX12_readTruth_184 (by decide) ?_
          refine y_v (x_run (As := [.int (4 : Int32)]) C hW hS (T_X12_waitsToo l l0 (4 : Int32) s4 _ h) t1 kl_12 (CW.of yv_X12_waitsToo ml_X12_516) ⟨rfl, rfl, ⟨by decide, by decide⟩, by decide, by decide⟩ rfl hl.1 rfl (by decide) dX12_readTruth_185) hS (fun s13 H locs h hW hS => ?_)
          refine lv_iconst (v := (1 : Int32)) hx hb dX12_readTruth_188 (by decide) ?_
          refine x_istore_n C hl dX12_readTruth_189 (by decide) rfl (fun ls hl => ?_)
          refine lv_goto hx hb dX12_readTruth_190 (tgt := 241) rfl ?_
          exact t_X12_readTruth_241 C hr hK9 hS hW (hl.keep [true, true, true, false] rfl) h
      · replace h := h.2 hc
        exact t_X12_readTruth_170 C hr hK9 hK154 hS hW (hl.keep [true, true, true, true] rfl) h
set_option maxRecDepth 20000 in
set_option maxHeartbeats 4000000 in
theorem t_X12_readTruth_154 {p : Program} {l : Launch} {e : Env} {s : State} {m : MethodId} {args : Array Value} {below : List Frame} {meth : Method} {c : Code} {H : Heap} {locs : List Loc} {D : va_G} {tc : Nat → ClassId} {b0 : Nat} {ls : Array Slot} {G : Lay} {Qx : Int32 → Mem → Prop} {l0 : Nat} {l1 : Int32} {l2 : Int32} {l3 : Int32}  {K9 : Int32 × Int32 × Mem → Prop} {σ : Mem} (C : Cx p s m args meth c cX12_readTruth RX12 4 D tc b0) (hr : meth.sig.returnType = (some FieldType.boolean)) (hK9 : ∀ (x1 : Int32) (x2 : Int32) (σ : Mem) (H : Heap) (locs : List Loc) (ls : Array Slot), va_S (AA b0) s.heap H locs → Wd G D tc b0 σ H → hL b0 ls 4 [some (.inr (.inr l0)), some (.inl x1), some (.inl x2), none] → K9 (x1, x2, σ) → W p l e rm_X12_readTruth s m args below meth c H locs 0 0 (MQ below (va_Qi Qx (fun u t => Pw G D tc b0 u t) (AA b0)) args s 0 0 (AA b0)) (F0 m 9 ls [])) (hS : va_S (AA b0) s.heap H locs) (hW : Wd G D tc b0 σ H) (hl : hL b0 ls 4 [some (.inr (.inr l0)), some (.inl l1), some (.inl l2), some (.inl l3)]) (h : X_X12_readTruth_154 G Qx K9 l0 l1 l2 l3 σ) : W p l e rm_X12_readTruth s m args below meth c H locs 0 0 (MQ below (va_Qi Qx (fun u t => Pw G D tc b0 u t) (AA b0)) args s 0 0 (AA b0)) (F0 m 154 ls []) := by
  obtain ⟨n, h⟩ := h
  exact t_X12_readTruth_154_n C hr hK9 n  σ H locs ls hS hW hl h
set_option maxRecDepth 20000 in
set_option maxHeartbeats 4000000 in
theorem t_X12_readTruth_80 {p : Program} {l : Launch} {e : Env} {s : State} {m : MethodId} {args : Array Value} {below : List Frame} {meth : Method} {c : Code} {H : Heap} {locs : List Loc} {D : va_G} {tc : Nat → ClassId} {b0 : Nat} {ls : Array Slot} {G : Lay} {Qx : Int32 → Mem → Prop} {l0 : Nat} {l1 : Int32} {l2 : Int32} {l3 : Int32}  {K9 : Int32 × Int32 × Mem → Prop} {σ : Mem} (C : Cx p s m args meth c cX12_readTruth RX12 4 D tc b0) (hr : meth.sig.returnType = (some FieldType.boolean)) (hK9 : ∀ (x1 : Int32) (x2 : Int32) (σ : Mem) (H : Heap) (locs : List Loc) (ls : Array Slot), va_S (AA b0) s.heap H locs → Wd G D tc b0 σ H → hL b0 ls 4 [some (.inr (.inr l0)), some (.inl x1), some (.inl x2), none] → K9 (x1, x2, σ) → W p l e rm_X12_readTruth s m args below meth c H locs 0 0 (MQ below (va_Qi Qx (fun u t => Pw G D tc b0 u t) (AA b0)) args s 0 0 (AA b0)) (F0 m 9 ls [])) (hS : va_S (AA b0) s.heap H locs) (hW : Wd G D tc b0 σ H) (hl : hL b0 ls 4 [some (.inr (.inr l0)), some (.inl l1), some (.inl l2), some (.inl l3)]) (h : X_X12_readTruth_80 G Qx K9 l0 l1 l2 l3  σ) : W p l e rm_X12_readTruth s m args below meth c H locs 0 0 (MQ below (va_Qi Qx (fun u t => Pw G D tc b0 u t) (AA b0)) args s 0 0 (AA b0)) (F0 m 80 ls []) := by
  have hx := C.1
  have hb := C.2.1
  unfold X_X12_readTruth_80 at h
  refine x_iload_n C hl dX12_readTruth_80 rfl ?_
  refine lv_if_eq hx hb dX12_readTruth_81 (tgt := 123) rfl (fun hc => ?_) (fun hc => ?_)
  · replace h := h.1 hc
    refine x_iload_n C hl dX12_readTruth_123 rfl ?_
    refine lv_bipush (v := (20 : Int32)) hx hb dX12_readTruth_124 (by decide) ?_
    refine lv_icmp_ne hx hb dX12_readTruth_126 (tgt := 154) rfl (fun hc => ?_) (fun hc => ?_)
    · replace h := h.2 hc
      exact t_X12_readTruth_154 C hr hK9 hS hW (hl.keep [true, true, true, true] rfl) h
    · replace h := h.1 hc
      exact t_X12_readTruth_129 C hr hK9 hS hW (hl.keep [true, false, true, false] rfl) h
  · replace h := h.2 hc
    refine x_iload_n C hl dX12_readTruth_84 rfl ?_
    refine lv_bipush (v := (22 : Int32)) hx hb dX12_readTruth_85 (by decide) ?_
    refine lv_icmp_ne hx hb dX12_readTruth_87 (tgt := 94) rfl (fun hc => ?_) (fun hc => ?_)
    · replace h := h.2 hc
      exact t_X12_readTruth_94 C hr hK9 hS hW (hl.keep [true, false, true, true] rfl) h
    · replace h := h.1 hc
      refine x_aload_n C hl dX12_readTruth_90 rfl ?_
      have t1 := h.1
      replace h := h.2
      refine y_v (x_run (As := []) C hW hS (T_X12_advance l l0 σ _ h) t1 kl_12 (CW.of yv_X12_advance ml_X12_271) ⟨rfl, rfl, ⟨by decide, by decide⟩, by decide, by decide⟩ rfl hl.1 rfl (by decide) dX12_readTruth_91) hS (fun s2 H locs h hW hS => ?_)
      exact t_X12_readTruth_94 C hr hK9 hS hW (hl.keep [true, false, true, true] rfl) h
set_option maxRecDepth 20000 in
set_option maxHeartbeats 4000000 in
theorem t_X12_readTruth_9_n {p : Program} {l : Launch} {e : Env} {s : State} {m : MethodId} {args : Array Value} {below : List Frame} {meth : Method} {c : Code} {D : va_G} {tc : Nat → ClassId} {b0 : Nat} {G : Lay} {Qx : Int32 → Mem → Prop} {l0 : Nat} (C : Cx p s m args meth c cX12_readTruth RX12 4 D tc b0) (hr : meth.sig.returnType = (some FieldType.boolean)) (n : Nat) : ∀ (l1 : Int32) (l2 : Int32) (σ : Mem) (H : Heap) (locs : List Loc) (ls : Array Slot), va_S (AA b0) s.heap H locs → Wd G D tc b0 σ H → hL b0 ls 4 [some (.inr (.inr l0)), some (.inl l1), some (.inl l2), none] → Lp (X_X12_readTruth_9_s G Qx l0) n (l1, l2, σ) → W p l e rm_X12_readTruth s m args below meth c H locs 0 0 (MQ below (va_Qi Qx (fun u t => Pw G D tc b0 u t) (AA b0)) args s 0 0 (AA b0)) (F0 m 9 ls []) := by
  have hx := C.1
  have hb := C.2.1
  induction n with
  | zero => intro l1 l2 σ H locs ls hS hW hl h; exact False.elim h
  | succ n hK9 =>
    intro l1 l2 σ H locs ls hS hW hl h
    replace h : X_X12_readTruth_9_s G Qx l0 (Lp (X_X12_readTruth_9_s G Qx l0) n) (l1, l2, σ) := h
    unfold X_X12_readTruth_9_s at h
    refine x_iload_n C hl dX12_readTruth_9 rfl ?_
    refine lv_if_eq hx hb dX12_readTruth_10 (tgt := 244) rfl (fun hc => ?_) (fun hc => ?_)
    · replace h := h.1 hc
      refine lv_iconst (v := (1 : Int32)) hx hb dX12_readTruth_244 (by decide) ?_
      exact r_z C hr hW hS h.1 h.2 dX12_readTruth_245
    · replace h := h.2 hc
      refine x_aload_n C hl dX12_readTruth_13 rfl ?_
      have t1 := h.1
      replace h := h.2
      refine y_i (x_run (As := []) C hW hS (T_X12_toldWord l l0 σ _ h) t1 kl_12 (CW.of yv_X12_toldWord ml_X12_284) ⟨rfl, rfl, ⟨by decide, by decide⟩, by decide, by decide⟩ rfl hl.1 rfl (by decide) dX12_readTruth_14) hS (fun w3 s2 H locs h hW hS => ?_)
      refine x_istore_n C hl dX12_readTruth_17 (by decide) rfl (fun ls hl => ?_)
      refine x_iload_n C hl dX12_readTruth_18 rfl ?_
      refine lv_if_eq hx hb dX12_readTruth_19 (tgt := 80) rfl (fun hc => ?_) (fun hc => ?_)
      · replace h := h.1 hc
        exact t_X12_readTruth_80 C hr hK9 hS hW (hl.keep [true, true, true, true] rfl) h
      · replace h := h.2 hc
        refine x_iload_n C hl dX12_readTruth_22 rfl ?_
        refine lv_bipush (v := (21 : Int32)) hx hb dX12_readTruth_23 (by decide) ?_
        refine lv_icmp_eq hx hb dX12_readTruth_25 (tgt := 37) rfl (fun hc => ?_) (fun hc => ?_)
        · replace h := h.1 hc
          exact t_X12_readTruth_37 C hr hK9 hS hW (hl.keep [true, true, true, true] rfl) h
        · replace h := h.2 hc
          refine x_aload_n C hl dX12_readTruth_28 rfl ?_
          refine lv_bipush (v := (40 : Int32)) hx hb dX12_readTruth_29 (by decide) ?_
          refine y_i (x_run (As := [.int (40 : Int32)]) C hW hS (T_X12_is l l0 (40 : Int32) s2 _ h) t1 kl_12 (CW.of yv_X12_is ml_X12_264) ⟨rfl, rfl, ⟨by decide, by decide⟩, by decide, by decide⟩ rfl hl.1 rfl (by decide) dX12_readTruth_31) hS (fun w5 s4 H locs h hW hS => ?_)
          refine lv_if_eq hx hb dX12_readTruth_34 (tgt := 80) rfl (fun hc => ?_) (fun hc => ?_)
          · replace h := h.1 hc
            exact t_X12_readTruth_80 C hr hK9 hS hW (hl.keep [true, true, true, true] rfl) h
          · replace h := h.2 hc
            exact t_X12_readTruth_37 C hr hK9 hS hW (hl.keep [true, true, true, true] rfl) h
set_option maxRecDepth 20000 in
set_option maxHeartbeats 4000000 in
theorem t_X12_readTruth_9 {p : Program} {l : Launch} {e : Env} {s : State} {m : MethodId} {args : Array Value} {below : List Frame} {meth : Method} {c : Code} {H : Heap} {locs : List Loc} {D : va_G} {tc : Nat → ClassId} {b0 : Nat} {ls : Array Slot} {G : Lay} {Qx : Int32 → Mem → Prop} {l0 : Nat} {l1 : Int32} {l2 : Int32}  {σ : Mem} (C : Cx p s m args meth c cX12_readTruth RX12 4 D tc b0) (hr : meth.sig.returnType = (some FieldType.boolean)) (hS : va_S (AA b0) s.heap H locs) (hW : Wd G D tc b0 σ H) (hl : hL b0 ls 4 [some (.inr (.inr l0)), some (.inl l1), some (.inl l2), none]) (h : X_X12_readTruth_9 G Qx l0 l1 l2 σ) : W p l e rm_X12_readTruth s m args below meth c H locs 0 0 (MQ below (va_Qi Qx (fun u t => Pw G D tc b0 u t) (AA b0)) args s 0 0 (AA b0)) (F0 m 9 ls []) := by
  obtain ⟨n, h⟩ := h
  exact t_X12_readTruth_9_n C hr n l1 l2 σ H locs ls hS hW hl h
set_option maxRecDepth 20000 in
set_option maxHeartbeats 4000000 in
theorem t_X12_readTruth_0 {p : Program} {l : Launch} {e : Env} {s : State} {m : MethodId} {args : Array Value} {below : List Frame} {meth : Method} {c : Code} {H : Heap} {locs : List Loc} {D : va_G} {tc : Nat → ClassId} {b0 : Nat} {ls : Array Slot} {G : Lay} {Qx : Int32 → Mem → Prop} {l0 : Nat}  {σ : Mem} (C : Cx p s m args meth c cX12_readTruth RX12 4 D tc b0) (hr : meth.sig.returnType = (some FieldType.boolean)) (hS : va_S (AA b0) s.heap H locs) (hW : Wd G D tc b0 σ H) (hl : hL b0 ls 4 [some (.inr (.inr l0)), none, none, none]) (h : X_X12_readTruth_0 G Qx l0  σ) : W p l e rm_X12_readTruth s m args below meth c H locs 0 0 (MQ below (va_Qi Qx (fun u t => Pw G D tc b0 u t) (AA b0)) args s 0 0 (AA b0)) (F0 m 0 ls []) := by
  have hx := C.1
  have hb := C.2.1
  unfold X_X12_readTruth_0 at h
  refine x_aload_n C hl dX12_readTruth_0 rfl ?_
  refine lv_iconst (v := (0 : Int32)) hx hb dX12_readTruth_1 (by decide) ?_
  have t1 := h.1
  replace h := h.2
  refine x_putI C hW hS (t := 12) (k := 93) t1 kl_12 (by decide) fl_X12_500 rfl rfl rfl rfl dX12_readTruth_2 (fun H locs hW hS => ?_)
  obtain ⟨s2, e_s2⟩ : ∃ z : Mem, z = (sI σ l0 93 (0 : Int32)) := ⟨_, rfl⟩
  replace h := h s2 e_s2
  replace hW : Wd G D tc b0 s2 H := by rw [e_s2]; exact hW
  refine lv_iconst (v := (1 : Int32)) hx hb dX12_readTruth_5 (by decide) ?_
  refine x_istore_n C hl dX12_readTruth_6 (by decide) rfl (fun ls hl => ?_)
  refine lv_iconst (v := (1 : Int32)) hx hb dX12_readTruth_7 (by decide) ?_
  refine x_istore_n C hl dX12_readTruth_8 (by decide) rfl (fun ls hl => ?_)
  exact t_X12_readTruth_9 C hr hS hW (hl.keep [true, true, true, false] rfl) h
theorem T_X12_readTruth (l : Launch) {G : Lay} {D : va_G} {tc : Nat → ClassId} {b0 : Nat} (l0 : Nat) (σ : Mem) (Qx : Int32 → Mem → Prop) (h : X_X12_readTruth G Qx l0 σ) : MI l yX12_readTruth cX12_readTruth 4 ((some FieldType.boolean)) rm_X12_readTruth G D tc b0 [rv b0 l0] σ Qx :=
  x_entry (y := yX12_readTruth) [.inr (.inr l0)] 3 (by decide) (Nat.le_of_ble_eq_true rfl) (fun p e s m args below meth c ls C hr hW hl => t_X12_readTruth_0 C hr va_S.rf hW (hl.keep [true, false, false, false] rfl) h)
/-! X12_readQuestion -/
set_option maxRecDepth 20000 in
set_option maxHeartbeats 4000000 in
theorem t_X12_readQuestion_111 {p : Program} {l : Launch} {e : Env} {s : State} {m : MethodId} {args : Array Value} {below : List Frame} {meth : Method} {c : Code} {H : Heap} {locs : List Loc} {D : va_G} {tc : Nat → ClassId} {b0 : Nat} {ls : Array Slot} {G : Lay} {Qx : Int32 → Mem → Prop}  {k0 : Int32} {σ : Mem} (C : Cx p s m args meth c cX12_readQuestion RX12 1 D tc b0) (hr : meth.sig.returnType = (some FieldType.boolean)) (hS : va_S (AA b0) s.heap H locs) (hW : Wd G D tc b0 σ H) (hl : hL b0 ls 1 [none]) (h : X_X12_readQuestion_111 G Qx  k0 σ) : W p l e rm_X12_readQuestion s m args below meth c H locs 0 0 (MQ below (va_Qi Qx (fun u t => Pw G D tc b0 u t) (AA b0)) args s 0 0 (AA b0)) (F0 m 111 ls [.int k0]) := by
  have hx := C.1
  have hb := C.2.1
  unfold X_X12_readQuestion_111 at h
  exact r_z C hr hW hS h.1 h.2 dX12_readQuestion_111
set_option maxRecDepth 20000 in
set_option maxHeartbeats 4000000 in
theorem t_X12_readQuestion_106 {p : Program} {l : Launch} {e : Env} {s : State} {m : MethodId} {args : Array Value} {below : List Frame} {meth : Method} {c : Code} {H : Heap} {locs : List Loc} {D : va_G} {tc : Nat → ClassId} {b0 : Nat} {ls : Array Slot} {G : Lay} {Qx : Int32 → Mem → Prop}   {σ : Mem} (C : Cx p s m args meth c cX12_readQuestion RX12 1 D tc b0) (hr : meth.sig.returnType = (some FieldType.boolean)) (hS : va_S (AA b0) s.heap H locs) (hW : Wd G D tc b0 σ H) (hl : hL b0 ls 1 [none]) (h : X_X12_readQuestion_106 G Qx   σ) : W p l e rm_X12_readQuestion s m args below meth c H locs 0 0 (MQ below (va_Qi Qx (fun u t => Pw G D tc b0 u t) (AA b0)) args s 0 0 (AA b0)) (F0 m 106 ls []) := by
  have hx := C.1
  have hb := C.2.1
  unfold X_X12_readQuestion_106 at h
  refine lv_iconst (v := (1 : Int32)) hx hb dX12_readQuestion_106 (by decide) ?_
  refine lv_goto hx hb dX12_readQuestion_107 (tgt := 111) rfl ?_
  exact t_X12_readQuestion_111 C hr hS hW (hl.keep [false] rfl) h
set_option maxRecDepth 20000 in
set_option maxHeartbeats 4000000 in
theorem t_X12_readQuestion_92 {p : Program} {l : Launch} {e : Env} {s : State} {m : MethodId} {args : Array Value} {below : List Frame} {meth : Method} {c : Code} {H : Heap} {locs : List Loc} {D : va_G} {tc : Nat → ClassId} {b0 : Nat} {ls : Array Slot} {G : Lay} {Qx : Int32 → Mem → Prop} {l0 : Nat}  {σ : Mem} (C : Cx p s m args meth c cX12_readQuestion RX12 1 D tc b0) (hr : meth.sig.returnType = (some FieldType.boolean)) (hS : va_S (AA b0) s.heap H locs) (hW : Wd G D tc b0 σ H) (hl : hL b0 ls 1 [some (.inr (.inr l0))]) (h : X_X12_readQuestion_92 G Qx l0  σ) : W p l e rm_X12_readQuestion s m args below meth c H locs 0 0 (MQ below (va_Qi Qx (fun u t => Pw G D tc b0 u t) (AA b0)) args s 0 0 (AA b0)) (F0 m 92 ls []) := by
  have hx := C.1
  have hb := C.2.1
  unfold X_X12_readQuestion_92 at h
  refine x_aload_n C hl dX12_readQuestion_92 rfl ?_
  have t1 := h.1
  replace h := h.2
  refine x_get C hW (t := 12) (k := 51) t1 kl_12 (by decide) fl_X12_243 (v := .int (mI σ l0 51)) rfl dX12_readQuestion_93 ?_
  refine lv_if_eq hx hb dX12_readQuestion_96 (tgt := 106) rfl (fun hc => ?_) (fun hc => ?_)
  · replace h := h.1 hc
    exact t_X12_readQuestion_106 C hr hS hW (hl.keep [false] rfl) h
  · replace h := h.2 hc
    refine x_aload_n C hl dX12_readQuestion_99 rfl ?_
    refine y_i (x_run (As := []) C hW hS (T_X12_wrong l l0 σ _ h) t1 kl_12 (CW.of yv_X12_wrong ml_X12_267) ⟨rfl, rfl, ⟨by decide, by decide⟩, by decide, by decide⟩ rfl hl.1 rfl (by decide) dX12_readQuestion_100) hS (fun w3 s2 H locs h hW hS => ?_)
    refine lv_if_eq hx hb dX12_readQuestion_103 (tgt := 110) rfl (fun hc => ?_) (fun hc => ?_)
    · replace h := h.1 hc
      refine lv_iconst (v := (0 : Int32)) hx hb dX12_readQuestion_110 (by decide) ?_
      exact t_X12_readQuestion_111 C hr hS hW (hl.keep [false] rfl) h
    · replace h := h.2 hc
      exact t_X12_readQuestion_106 C hr hS hW (hl.keep [false] rfl) h
set_option maxRecDepth 20000 in
set_option maxHeartbeats 4000000 in
theorem t_X12_readQuestion_0 {p : Program} {l : Launch} {e : Env} {s : State} {m : MethodId} {args : Array Value} {below : List Frame} {meth : Method} {c : Code} {H : Heap} {locs : List Loc} {D : va_G} {tc : Nat → ClassId} {b0 : Nat} {ls : Array Slot} {G : Lay} {Qx : Int32 → Mem → Prop} {l0 : Nat}  {σ : Mem} (C : Cx p s m args meth c cX12_readQuestion RX12 1 D tc b0) (hr : meth.sig.returnType = (some FieldType.boolean)) (hS : va_S (AA b0) s.heap H locs) (hW : Wd G D tc b0 σ H) (hl : hL b0 ls 1 [some (.inr (.inr l0))]) (h : X_X12_readQuestion_0 G Qx l0  σ) : W p l e rm_X12_readQuestion s m args below meth c H locs 0 0 (MQ below (va_Qi Qx (fun u t => Pw G D tc b0 u t) (AA b0)) args s 0 0 (AA b0)) (F0 m 0 ls []) := by
  have hx := C.1
  have hb := C.2.1
  unfold X_X12_readQuestion_0 at h
  refine x_aload_n C hl dX12_readQuestion_0 rfl ?_
  refine lv_iconst (v := (0 : Int32)) hx hb dX12_readQuestion_1 (by decide) ?_
  have t1 := h.1
  replace h := h.2
  refine x_putI C hW hS (t := 12) (k := 50) t1 kl_12 (by decide) fl_X12_226 rfl rfl rfl rfl dX12_readQuestion_2 (fun H locs hW hS => ?_)
  obtain ⟨s2, e_s2⟩ : ∃ z : Mem, z = (sI σ l0 50 (0 : Int32)) := ⟨_, rfl⟩
  replace h := h s2 e_s2
  replace hW : Wd G D tc b0 s2 H := by rw [e_s2]; exact hW
  refine x_aload_n C hl dX12_readQuestion_5 rfl ?_
  refine lv_iconst (v := (0 : Int32)) hx hb dX12_readQuestion_6 (by decide) ?_
  refine x_putI C hW hS (t := 12) (k := 80) t1 kl_12 (by decide) fl_X12_497 rfl rfl rfl rfl dX12_readQuestion_7 (fun H locs hW hS => ?_)
  obtain ⟨s3, e_s3⟩ : ∃ z : Mem, z = (sI s2 l0 80 (0 : Int32)) := ⟨_, rfl⟩
  replace h := h s3 e_s3
  replace hW : Wd G D tc b0 s3 H := by rw [e_s3]; exact hW
  refine x_aload_n C hl dX12_readQuestion_10 rfl ?_
  refine lv_iconst (v := (0 : Int32)) hx hb dX12_readQuestion_11 (by decide) ?_
  refine x_putI C hW hS (t := 12) (k := 87) t1 kl_12 (by decide) fl_X12_529 rfl rfl rfl rfl dX12_readQuestion_12 (fun H locs hW hS => ?_)
  obtain ⟨s4, e_s4⟩ : ∃ z : Mem, z = (sI s3 l0 87 (0 : Int32)) := ⟨_, rfl⟩
  replace h := h s4 e_s4
  replace hW : Wd G D tc b0 s4 H := by rw [e_s4]; exact hW
  refine x_aload_n C hl dX12_readQuestion_15 rfl ?_
  refine lv_iconst (v := (0 : Int32)) hx hb dX12_readQuestion_16 (by decide) ?_
  refine x_putI C hW hS (t := 12) (k := 88) t1 kl_12 (by decide) fl_X12_513 rfl rfl rfl rfl dX12_readQuestion_17 (fun H locs hW hS => ?_)
  obtain ⟨s5, e_s5⟩ : ∃ z : Mem, z = (sI s4 l0 88 (0 : Int32)) := ⟨_, rfl⟩
  replace h := h s5 e_s5
  replace hW : Wd G D tc b0 s5 H := by rw [e_s5]; exact hW
  refine x_aload_n C hl dX12_readQuestion_20 rfl ?_
  refine y_v (x_run (As := []) C hW hS (T_X12_advance l l0 s5 _ h) t1 kl_12 (CW.of yv_X12_advance ml_X12_271) ⟨rfl, rfl, ⟨by decide, by decide⟩, by decide, by decide⟩ rfl hl.1 rfl (by decide) dX12_readQuestion_21) hS (fun s6 H locs h hW hS => ?_)
  refine x_aload_n C hl dX12_readQuestion_24 rfl ?_
  refine y_i (x_run (As := []) C hW hS (T_X12_isName l l0 s6 _ h) t1 kl_12 (CW.of yv_X12_isName ml_X12_319) ⟨rfl, rfl, ⟨by decide, by decide⟩, by decide, by decide⟩ rfl hl.1 rfl (by decide) dX12_readQuestion_25) hS (fun w8 s7 H locs h hW hS => ?_)
  refine lv_if_ne hx hb dX12_readQuestion_28 (tgt := 36) rfl (fun hc => ?_) (fun hc => ?_)
  · replace h := h.2 hc
    refine x_aload_n C hl dX12_readQuestion_36 rfl ?_
    refine x_aload_n C hl dX12_readQuestion_37 rfl ?_
    refine lv_iconst (v := (0 : Int32)) hx hb dX12_readQuestion_38 (by decide) ?_
    refine x_aload_n C hl dX12_readQuestion_39 rfl ?_
    refine x_get C hW (t := 12) (k := 2) t1 kl_12 (by decide) fl_X12_341 (v := .int (mI s7 l0 2)) rfl dX12_readQuestion_40 ?_
    refine x_aload_n C hl dX12_readQuestion_43 rfl ?_
    refine x_get C hW (t := 12) (k := 52) t1 kl_12 (by decide) fl_X12_246 (v := .long (mJ s7 l0 52)) rfl dX12_readQuestion_44 ?_
    refine y_i (x_run (As := [.int (0 : Int32), .int (mI s7 l0 2), .long (mJ s7 l0 52)]) C hW hS (T_X12_classNamed l l0 (0 : Int32) (mI s7 l0 2) (mJ s7 l0 52) s7 _ h) t1 kl_12 (CW.of yv_X12_classNamed ml_X12_303) ⟨rfl, rfl, ⟨by decide, by decide⟩, by decide, by decide⟩ rfl hl.1 rfl (by simp [rv_cat, cat_i, cat_l]) dX12_readQuestion_47) hS (fun w10 s9 H locs h hW hS => ?_)
    refine x_putI C hW hS (t := 12) (k := 89) t1 kl_12 (by decide) fl_X12_526 rfl rfl rfl rfl dX12_readQuestion_50 (fun H locs hW hS => ?_)
    obtain ⟨s11, e_s11⟩ : ∃ z : Mem, z = (sI s9 l0 89 w10) := ⟨_, rfl⟩
    replace h := h s11 e_s11
    replace hW : Wd G D tc b0 s11 H := by rw [e_s11]; exact hW
    refine x_aload_n C hl dX12_readQuestion_53 rfl ?_
    refine x_get C hW (t := 12) (k := 89) t1 kl_12 (by decide) fl_X12_526 (v := .int (mI s11 l0 89)) rfl dX12_readQuestion_54 ?_
    refine lv_if_ge hx hb dX12_readQuestion_57 (tgt := 66) rfl (fun hc => ?_) (fun hc => ?_)
    · replace h := h.1 hc
      refine x_aload_n C hl dX12_readQuestion_66 rfl ?_
      refine y_v (x_run (As := []) C hW hS (T_X12_advance l l0 s11 _ h) t1 kl_12 (CW.of yv_X12_advance ml_X12_271) ⟨rfl, rfl, ⟨by decide, by decide⟩, by decide, by decide⟩ rfl hl.1 rfl (by decide) dX12_readQuestion_67) hS (fun s12 H locs h hW hS => ?_)
      refine x_aload_n C hl dX12_readQuestion_70 rfl ?_
      refine y_i (x_run (As := []) C hW hS (T_X12_toldWord l l0 s12 _ h) t1 kl_12 (CW.of yv_X12_toldWord ml_X12_284) ⟨rfl, rfl, ⟨by decide, by decide⟩, by decide, by decide⟩ rfl hl.1 rfl (by decide) dX12_readQuestion_71) hS (fun w14 s13 H locs h hW hS => ?_)
      refine lv_bipush (v := (18 : Int32)) hx hb dX12_readQuestion_74 (by decide) ?_
      refine lv_icmp_ne hx hb dX12_readQuestion_76 (tgt := 92) rfl (fun hc => ?_) (fun hc => ?_)
      · replace h := h.2 hc
        exact t_X12_readQuestion_92 C hr hS hW (hl.keep [true] rfl) h
      · replace h := h.1 hc
        refine x_aload_n C hl dX12_readQuestion_79 rfl ?_
        refine y_v (x_run (As := []) C hW hS (T_X12_advance l l0 s13 _ h) t1 kl_12 (CW.of yv_X12_advance ml_X12_271) ⟨rfl, rfl, ⟨by decide, by decide⟩, by decide, by decide⟩ rfl hl.1 rfl (by decide) dX12_readQuestion_80) hS (fun s15 H locs h hW hS => ?_)
        refine x_aload_n C hl dX12_readQuestion_83 rfl ?_
        refine y_i (x_run (As := []) C hW hS (T_X12_readTruth l l0 s15 _ h) t1 kl_12 (CW.of yv_X12_readTruth ml_X12_532) ⟨rfl, rfl, ⟨by decide, by decide⟩, by decide, by decide⟩ rfl hl.1 rfl (by decide) dX12_readQuestion_84) hS (fun w17 s16 H locs h hW hS => ?_)
        refine lv_if_ne hx hb dX12_readQuestion_87 (tgt := 92) rfl (fun hc => ?_) (fun hc => ?_)
        · replace h := h.2 hc
          exact t_X12_readQuestion_92 C hr hS hW (hl.keep [true] rfl) h
        · replace h := h.1 hc
          refine lv_iconst (v := (0 : Int32)) hx hb dX12_readQuestion_90 (by decide) ?_
          exact r_z C hr hW hS h.1 h.2 dX12_readQuestion_91
    · replace h := h.2 hc
      refine x_aload_n C hl dX12_readQuestion_60 rfl ?_
      refine lv_iconst (v := (3 : Int32)) hx hb dX12_readQuestion_61 (by decide) ?_
      refine y_i (x_run (As := [.int (3 : Int32)]) C hW hS (T_X12_fails l l0 (3 : Int32) s11 _ h) t1 kl_12 (CW.of yv_X12_fails ml_X12_261) ⟨rfl, rfl, ⟨by decide, by decide⟩, by decide, by decide⟩ rfl hl.1 rfl (by decide) dX12_readQuestion_62) hS (fun w19 s18 H locs h hW hS => ?_)
      exact r_z C hr hW hS h.1 h.2 dX12_readQuestion_65
  · replace h := h.1 hc
    refine x_aload_n C hl dX12_readQuestion_31 rfl ?_
    refine y_i (x_run (As := []) C hW hS (T_X12_wrong l l0 s7 _ h) t1 kl_12 (CW.of yv_X12_wrong ml_X12_267) ⟨rfl, rfl, ⟨by decide, by decide⟩, by decide, by decide⟩ rfl hl.1 rfl (by decide) dX12_readQuestion_32) hS (fun w21 s20 H locs h hW hS => ?_)
    exact r_z C hr hW hS h.1 h.2 dX12_readQuestion_35
theorem T_X12_readQuestion (l : Launch) {G : Lay} {D : va_G} {tc : Nat → ClassId} {b0 : Nat} (l0 : Nat) (σ : Mem) (Qx : Int32 → Mem → Prop) (h : X_X12_readQuestion G Qx l0 σ) : MI l yX12_readQuestion cX12_readQuestion 1 ((some FieldType.boolean)) rm_X12_readQuestion G D tc b0 [rv b0 l0] σ Qx :=
  x_entry (y := yX12_readQuestion) [.inr (.inr l0)] 0 (by decide) (Nat.le_of_ble_eq_true rfl) (fun p e s m args below meth c ls C hr hW hl => t_X12_readQuestion_0 C hr va_S.rf hW (hl.keep [true] rfl) h)
/-! X12_told -/
set_option maxRecDepth 20000 in
set_option maxHeartbeats 4000000 in
theorem t_X12_told_138 {p : Program} {l : Launch} {e : Env} {s : State} {m : MethodId} {args : Array Value} {below : List Frame} {meth : Method} {c : Code} {H : Heap} {locs : List Loc} {D : va_G} {tc : Nat → ClassId} {b0 : Nat} {ls : Array Slot} {G : Lay} {Qx : Int32 → Mem → Prop}  {k0 : Int32} {σ : Mem} (C : Cx p s m args meth c cX12_told RX12 8 D tc b0) (hr : meth.sig.returnType = (some FieldType.int)) (hS : va_S (AA b0) s.heap H locs) (hW : Wd G D tc b0 σ H) (hl : hL b0 ls 8 [none, none, none, none, none, none, none, none]) (h : X_X12_told_138 G Qx  k0 σ) : W p l e rm_X12_told s m args below meth c H locs 0 0 (MQ below (va_Qi Qx (fun u t => Pw G D tc b0 u t) (AA b0)) args s 0 0 (AA b0)) (F0 m 138 ls [.int k0]) := by
  have hx := C.1
  have hb := C.2.1
  unfold X_X12_told_138 at h
  exact r_i C hr hW hS h dX12_told_138
set_option maxRecDepth 20000 in
set_option maxHeartbeats 4000000 in
theorem t_X12_told_223 {p : Program} {l : Launch} {e : Env} {s : State} {m : MethodId} {args : Array Value} {below : List Frame} {meth : Method} {c : Code} {H : Heap} {locs : List Loc} {D : va_G} {tc : Nat → ClassId} {b0 : Nat} {ls : Array Slot} {G : Lay} {Qx : Int32 → Mem → Prop}  {k0 : Int32} {σ : Mem} (C : Cx p s m args meth c cX12_told RX12 8 D tc b0) (hr : meth.sig.returnType = (some FieldType.int)) (hS : va_S (AA b0) s.heap H locs) (hW : Wd G D tc b0 σ H) (hl : hL b0 ls 8 [none, none, none, none, none, none, none, none]) (h : X_X12_told_223 G Qx  k0 σ) : W p l e rm_X12_told s m args below meth c H locs 0 0 (MQ below (va_Qi Qx (fun u t => Pw G D tc b0 u t) (AA b0)) args s 0 0 (AA b0)) (F0 m 223 ls [.int k0]) := by
  have hx := C.1
  have hb := C.2.1
  unfold X_X12_told_223 at h
  exact r_i C hr hW hS h dX12_told_223
set_option maxRecDepth 20000 in
set_option maxHeartbeats 4000000 in
theorem t_X12_told_211 {p : Program} {l : Launch} {e : Env} {s : State} {m : MethodId} {args : Array Value} {below : List Frame} {meth : Method} {c : Code} {H : Heap} {locs : List Loc} {D : va_G} {tc : Nat → ClassId} {b0 : Nat} {ls : Array Slot} {G : Lay} {Qx : Int32 → Mem → Prop}  {k0 : Int32} {σ : Mem} (C : Cx p s m args meth c cX12_told RX12 8 D tc b0) (hr : meth.sig.returnType = (some FieldType.int)) (hS : va_S (AA b0) s.heap H locs) (hW : Wd G D tc b0 σ H) (hl : hL b0 ls 8 [none, none, none, none, none, none, none, none]) (h : X_X12_told_211 G Qx  k0 σ) : W p l e rm_X12_told s m args below meth c H locs 0 0 (MQ below (va_Qi Qx (fun u t => Pw G D tc b0 u t) (AA b0)) args s 0 0 (AA b0)) (F0 m 211 ls [.int k0]) := by
  have hx := C.1
  have hb := C.2.1
  unfold X_X12_told_211 at h
  refine x_istore C hl dX12_told_211 (by decide) rfl (fun ls hl => ?_)
  refine x_iload C hl dX12_told_213 rfl ?_
  refine lv_if_eq hx hb dX12_told_215 (tgt := 222) rfl (fun hc => ?_) (fun hc => ?_)
  · replace h := h.1 hc
    refine lv_iconst (v := (0 : Int32)) hx hb dX12_told_222 (by decide) ?_
    exact t_X12_told_223 C hr hS hW (hl.keep [false, false, false, false, false, false, false, false] rfl) h
  · replace h := h.2 hc
    refine lv_iconst (v := (2 : Int32)) hx hb dX12_told_218 (by decide) ?_
    refine lv_goto hx hb dX12_told_219 (tgt := 223) rfl ?_
    exact t_X12_told_223 C hr hS hW (hl.keep [false, false, false, false, false, false, false, false] rfl) h
set_option maxRecDepth 20000 in
set_option maxHeartbeats 4000000 in
theorem t_X12_told_27_n {p : Program} {l : Launch} {e : Env} {s : State} {m : MethodId} {args : Array Value} {below : List Frame} {meth : Method} {c : Code} {D : va_G} {tc : Nat → ClassId} {b0 : Nat} {G : Lay} {Qx : Int32 → Mem → Prop} {l0 : Nat} {l2 : Int32} {l4 : Int32} (C : Cx p s m args meth c cX12_told RX12 8 D tc b0) (hr : meth.sig.returnType = (some FieldType.int)) (n : Nat) : ∀ (l3 : Int32) (l5 : Int32) (σ : Mem) (H : Heap) (locs : List Loc) (ls : Array Slot), va_S (AA b0) s.heap H locs → Wd G D tc b0 σ H → hL b0 ls 8 [some (.inr (.inr l0)), none, some (.inl l2), some (.inl l3), some (.inl l4), some (.inl l5), none, none] → Lp (X_X12_told_27_s G Qx l0 l2 l4) n (l3, l5, σ) → W p l e rm_X12_told s m args below meth c H locs 0 0 (MQ below (va_Qi Qx (fun u t => Pw G D tc b0 u t) (AA b0)) args s 0 0 (AA b0)) (F0 m 27 ls []) := by
  have hx := C.1
  have hb := C.2.1
  induction n with
  | zero => intro l3 l5 σ H locs ls hS hW hl h; exact False.elim h
  | succ n hK27 =>
    intro l3 l5 σ H locs ls hS hW hl h
    replace h : X_X12_told_27_s G Qx l0 l2 l4 (Lp (X_X12_told_27_s G Qx l0 l2 l4) n) (l3, l5, σ) := h
    unfold X_X12_told_27_s at h
    refine x_iload C hl dX12_told_27 rfl ?_
    refine x_iload C hl dX12_told_29 rfl ?_
    refine lv_icmp_ge hx hb dX12_told_31 (tgt := 99) rfl (fun hc => ?_) (fun hc => ?_)
    · replace h := h.1 hc
      refine x_aload_n C hl dX12_told_99 rfl ?_
      have t1 := h.1
      replace h := h.2
      refine x_get C hW (t := 12) (k := 31) t1 kl_12 (by decide) fl_X12_89 (v := rv b0 (mR σ l0 31)) rfl dX12_told_100 ?_
      refine lv_bipush (v := (16 : Int32)) hx hb dX12_told_103 (by decide) ?_
      refine x_iload_n C hl dX12_told_105 rfl ?_
      refine lv_imul hx hb dX12_told_106 ?_
      refine x_aload_n C hl dX12_told_107 rfl ?_
      refine x_get C hW (t := 12) (k := 86) t1 kl_12 (by decide) fl_X12_211 (v := rv b0 (mR σ l0 86)) rfl dX12_told_108 ?_
      refine x_iload C hl dX12_told_111 rfl ?_
      have t2 := h.1
      replace h := h.2
      have v3 := h.1
      replace h := h.2
      refine x_iald C hW t2 v3 dX12_told_113 ?_
      refine lv_iadd hx hb dX12_told_114 ?_
      have t4 := h.1
      replace h := h.2
      have v5 := h.1
      replace h := h.2
      refine x_iald C hW t4 v5 dX12_told_115 ?_
      refine x_istore C hl dX12_told_116 (by decide) rfl (fun ls hl => ?_)
      refine x_aload_n C hl dX12_told_118 rfl ?_
      refine x_get C hW (t := 12) (k := 81) t1 kl_12 (by decide) fl_X12_196 (v := rv b0 (mR σ l0 81)) rfl dX12_told_119 ?_
      refine x_iload_n C hl dX12_told_122 rfl ?_
      have t6 := h.1
      replace h := h.2
      have v7 := h.1
      replace h := h.2
      refine x_iald C hW t6 v7 dX12_told_123 ?_
      refine lv_iconst (v := (1 : Int32)) hx hb dX12_told_124 (by decide) ?_
      refine lv_icmp_ne hx hb dX12_told_125 (tgt := 139) rfl (fun hc => ?_) (fun hc => ?_)
      · replace h := h.2 hc
        refine x_aload_n C hl dX12_told_139 rfl ?_
        refine x_get C hW (t := 12) (k := 85) t1 kl_12 (by decide) fl_X12_208 (v := rv b0 (mR σ l0 85)) rfl dX12_told_140 ?_
        refine x_iload_n C hl dX12_told_143 rfl ?_
        have t8 := h.1
        replace h := h.2
        have v9 := h.1
        replace h := h.2
        refine x_iald C hW t8 v9 dX12_told_144 ?_
        refine x_istore C hl dX12_told_145 (by decide) rfl (fun ls hl => ?_)
        refine x_aload_n C hl dX12_told_147 rfl ?_
        refine x_get C hW (t := 12) (k := 84) t1 kl_12 (by decide) fl_X12_205 (v := rv b0 (mR σ l0 84)) rfl dX12_told_148 ?_
        refine x_iload_n C hl dX12_told_151 rfl ?_
        have t10 := h.1
        replace h := h.2
        have v11 := h.1
        replace h := h.2
        refine x_iald C hW t10 v11 dX12_told_152 ?_
        refine lv_bipush (v := (61 : Int32)) hx hb dX12_told_153 (by decide) ?_
        refine lv_icmp_ne hx hb dX12_told_155 (tgt := 173) rfl (fun hc => ?_) (fun hc => ?_)
        · replace h := h.2 hc
          refine x_aload_n C hl dX12_told_173 rfl ?_
          refine x_get C hW (t := 12) (k := 84) t1 kl_12 (by decide) fl_X12_205 (v := rv b0 (mR σ l0 84)) rfl dX12_told_174 ?_
          refine x_iload_n C hl dX12_told_177 rfl ?_
          refine x_iald C hW t10 v11 dX12_told_178 ?_
          refine lv_bipush (v := (60 : Int32)) hx hb dX12_told_179 (by decide) ?_
          refine lv_icmp_ne hx hb dX12_told_181 (tgt := 199) rfl (fun hc => ?_) (fun hc => ?_)
          · replace h := h.2 hc
            refine x_iload C hl dX12_told_199 rfl ?_
            refine x_iload C hl dX12_told_201 rfl ?_
            refine lv_icmp_le hx hb dX12_told_203 (tgt := 210) rfl (fun hc => ?_) (fun hc => ?_)
            · replace h := h.1 hc
              refine lv_iconst (v := (0 : Int32)) hx hb dX12_told_210 (by decide) ?_
              exact t_X12_told_211 C hr hS hW (hl.keep [false, false, false, false, false, false, false, false] rfl) h
            · replace h := h.2 hc
              refine lv_iconst (v := (1 : Int32)) hx hb dX12_told_206 (by decide) ?_
              refine lv_goto hx hb dX12_told_207 (tgt := 211) rfl ?_
              exact t_X12_told_211 C hr hS hW (hl.keep [false, false, false, false, false, false, false, false] rfl) h
          · replace h := h.1 hc
            refine x_iload C hl dX12_told_184 rfl ?_
            refine x_iload C hl dX12_told_186 rfl ?_
            refine lv_icmp_ge hx hb dX12_told_188 (tgt := 195) rfl (fun hc => ?_) (fun hc => ?_)
            · replace h := h.1 hc
              refine lv_iconst (v := (0 : Int32)) hx hb dX12_told_195 (by decide) ?_
              refine lv_goto hx hb dX12_told_196 (tgt := 211) rfl ?_
              exact t_X12_told_211 C hr hS hW (hl.keep [false, false, false, false, false, false, false, false] rfl) h
            · replace h := h.2 hc
              refine lv_iconst (v := (1 : Int32)) hx hb dX12_told_191 (by decide) ?_
              refine lv_goto hx hb dX12_told_192 (tgt := 211) rfl ?_
              exact t_X12_told_211 C hr hS hW (hl.keep [false, false, false, false, false, false, false, false] rfl) h
        · replace h := h.1 hc
          refine x_iload C hl dX12_told_158 rfl ?_
          refine x_iload C hl dX12_told_160 rfl ?_
          refine lv_icmp_ne hx hb dX12_told_162 (tgt := 169) rfl (fun hc => ?_) (fun hc => ?_)
          · replace h := h.2 hc
            refine lv_iconst (v := (0 : Int32)) hx hb dX12_told_169 (by decide) ?_
            refine lv_goto hx hb dX12_told_170 (tgt := 211) rfl ?_
            exact t_X12_told_211 C hr hS hW (hl.keep [false, false, false, false, false, false, false, false] rfl) h
          · replace h := h.1 hc
            refine lv_iconst (v := (1 : Int32)) hx hb dX12_told_165 (by decide) ?_
            refine lv_goto hx hb dX12_told_166 (tgt := 211) rfl ?_
            exact t_X12_told_211 C hr hS hW (hl.keep [false, false, false, false, false, false, false, false] rfl) h
      · replace h := h.1 hc
        refine x_iload C hl dX12_told_128 rfl ?_
        refine lv_if_ne hx hb dX12_told_130 (tgt := 137) rfl (fun hc => ?_) (fun hc => ?_)
        · replace h := h.2 hc
          refine lv_iconst (v := (0 : Int32)) hx hb dX12_told_137 (by decide) ?_
          exact t_X12_told_138 C hr hS hW (hl.keep [false, false, false, false, false, false, false, false] rfl) h
        · replace h := h.1 hc
          refine lv_iconst (v := (2 : Int32)) hx hb dX12_told_133 (by decide) ?_
          refine lv_goto hx hb dX12_told_134 (tgt := 138) rfl ?_
          exact t_X12_told_138 C hr hS hW (hl.keep [false, false, false, false, false, false, false, false] rfl) h
    · replace h := h.2 hc
      refine x_aload_n C hl dX12_told_34 rfl ?_
      have t12 := h.1
      replace h := h.2
      refine x_get C hW (t := 12) (k := 31) t12 kl_12 (by decide) fl_X12_89 (v := rv b0 (mR σ l0 31)) rfl dX12_told_35 ?_
      refine lv_bipush (v := (16 : Int32)) hx hb dX12_told_38 (by decide) ?_
      refine x_iload_n C hl dX12_told_40 rfl ?_
      refine lv_imul hx hb dX12_told_41 ?_
      refine x_aload_n C hl dX12_told_42 rfl ?_
      refine x_get C hW (t := 12) (k := 86) t12 kl_12 (by decide) fl_X12_211 (v := rv b0 (mR σ l0 86)) rfl dX12_told_43 ?_
      refine x_iload C hl dX12_told_46 rfl ?_
      have t13 := h.1
      replace h := h.2
      have v14 := h.1
      replace h := h.2
      refine x_iald C hW t13 v14 dX12_told_48 ?_
      refine lv_iadd hx hb dX12_told_49 ?_
      have t15 := h.1
      replace h := h.2
      have v16 := h.1
      replace h := h.2
      refine x_iald C hW t15 v16 dX12_told_50 ?_
      refine x_istore C hl dX12_told_51 (by decide) rfl (fun ls hl => ?_)
      refine x_iload C hl dX12_told_53 rfl ?_
      refine lv_if_ne hx hb dX12_told_55 (tgt := 60) rfl (fun hc => ?_) (fun hc => ?_)
      · replace h := h.2 hc
        refine x_aload_n C hl dX12_told_60 rfl ?_
        refine x_aload_n C hl dX12_told_61 rfl ?_
        refine x_aload_n C hl dX12_told_62 rfl ?_
        refine x_get C hW (t := 12) (k := 10) t12 kl_12 (by decide) fl_X12_35 (v := rv b0 (mR σ l0 10)) rfl dX12_told_63 ?_
        refine lv_bipush (v := (16 : Int32)) hx hb dX12_told_66 (by decide) ?_
        refine x_aload_n C hl dX12_told_68 rfl ?_
        refine x_get C hW (t := 12) (k := 29) t12 kl_12 (by decide) fl_X12_83 (v := rv b0 (mR σ l0 29)) rfl dX12_told_69 ?_
        refine x_iload_n C hl dX12_told_72 rfl ?_
        have t17 := h.1
        replace h := h.2
        have v18 := h.1
        replace h := h.2
        refine x_iald C hW t17 v18 dX12_told_73 ?_
        refine lv_imul hx hb dX12_told_74 ?_
        refine x_aload_n C hl dX12_told_75 rfl ?_
        refine x_get C hW (t := 12) (k := 86) t12 kl_12 (by decide) fl_X12_211 (v := rv b0 (mR σ l0 86)) rfl dX12_told_76 ?_
        refine x_iload C hl dX12_told_79 rfl ?_
        refine x_iald C hW t13 v14 dX12_told_81 ?_
        refine lv_iadd hx hb dX12_told_82 ?_
        have t19 := h.1
        replace h := h.2
        have v20 := h.1
        replace h := h.2
        refine x_iald C hW t19 v20 dX12_told_83 ?_
        refine y_i (x_run (As := [.int (mI σ (mR σ l0 10) (((16 : Int32) * (mI σ (mR σ l0 29) l3.toNatClampNeg)) + (mI σ (mR σ l0 86) l5.toNatClampNeg)).toNatClampNeg)]) C hW hS (T_X12_rootOf l l0 (mI σ (mR σ l0 10) (((16 : Int32) * (mI σ (mR σ l0 29) l3.toNatClampNeg)) + (mI σ (mR σ l0 86) l5.toNatClampNeg)).toNatClampNeg) σ _ h) t12 kl_12 (CW.of yv_X12_rootOf ml_X12_353) ⟨rfl, rfl, ⟨by decide, by decide⟩, by decide, by decide⟩ rfl hl.1 rfl (by simp [rv_cat, cat_i, cat_l]) dX12_told_84) hS (fun w22 s21 H locs h hW hS => ?_)
        refine x_iload C hl dX12_told_87 rfl ?_
        refine y_i (x_run (As := [.int w22, .int (mI σ (mR σ l0 31) (((16 : Int32) * l3) + (mI σ (mR σ l0 86) l5.toNatClampNeg)).toNatClampNeg)]) C hW hS (T_X12_rowOf l l0 w22 (mI σ (mR σ l0 31) (((16 : Int32) * l3) + (mI σ (mR σ l0 86) l5.toNatClampNeg)).toNatClampNeg) s21 _ h) t12 kl_12 (CW.of yv_X12_rowOf ml_X12_369) ⟨rfl, rfl, ⟨by decide, by decide⟩, by decide, by decide⟩ rfl hl.1 rfl (by decide) dX12_told_89) hS (fun w24 s23 H locs h hW hS => ?_)
        refine x_istore_n C hl dX12_told_92 (by decide) rfl (fun ls hl => ?_)
        refine x_iinc C hl dX12_told_93 rfl (v := (1 : Int32)) (by decide) (by decide) rfl (fun ls hl => ?_)
        refine lv_goto hx hb dX12_told_96 (tgt := 27) rfl ?_
        exact hK27 _ _ _ _ _ _ hS hW (hl.keep [true, false, true, true, true, true, false, false] rfl) h
      · replace h := h.1 hc
        refine lv_iconst (v := (1 : Int32)) hx hb dX12_told_58 (by decide) ?_
        exact r_i C hr hW hS h dX12_told_59
set_option maxRecDepth 20000 in
set_option maxHeartbeats 4000000 in
theorem t_X12_told_27 {p : Program} {l : Launch} {e : Env} {s : State} {m : MethodId} {args : Array Value} {below : List Frame} {meth : Method} {c : Code} {H : Heap} {locs : List Loc} {D : va_G} {tc : Nat → ClassId} {b0 : Nat} {ls : Array Slot} {G : Lay} {Qx : Int32 → Mem → Prop} {l0 : Nat} {l2 : Int32} {l3 : Int32} {l4 : Int32} {l5 : Int32}  {σ : Mem} (C : Cx p s m args meth c cX12_told RX12 8 D tc b0) (hr : meth.sig.returnType = (some FieldType.int)) (hS : va_S (AA b0) s.heap H locs) (hW : Wd G D tc b0 σ H) (hl : hL b0 ls 8 [some (.inr (.inr l0)), none, some (.inl l2), some (.inl l3), some (.inl l4), some (.inl l5), none, none]) (h : X_X12_told_27 G Qx l0 l2 l3 l4 l5 σ) : W p l e rm_X12_told s m args below meth c H locs 0 0 (MQ below (va_Qi Qx (fun u t => Pw G D tc b0 u t) (AA b0)) args s 0 0 (AA b0)) (F0 m 27 ls []) := by
  obtain ⟨n, h⟩ := h
  exact t_X12_told_27_n C hr n l3 l5 σ H locs ls hS hW hl h
set_option maxRecDepth 20000 in
set_option maxHeartbeats 4000000 in
theorem t_X12_told_0 {p : Program} {l : Launch} {e : Env} {s : State} {m : MethodId} {args : Array Value} {below : List Frame} {meth : Method} {c : Code} {H : Heap} {locs : List Loc} {D : va_G} {tc : Nat → ClassId} {b0 : Nat} {ls : Array Slot} {G : Lay} {Qx : Int32 → Mem → Prop} {l0 : Nat} {l1 : Int32} {l2 : Int32}  {σ : Mem} (C : Cx p s m args meth c cX12_told RX12 8 D tc b0) (hr : meth.sig.returnType = (some FieldType.int)) (hS : va_S (AA b0) s.heap H locs) (hW : Wd G D tc b0 σ H) (hl : hL b0 ls 8 [some (.inr (.inr l0)), some (.inl l1), some (.inl l2), none, none, none, none, none]) (h : X_X12_told_0 G Qx l0 l1 l2  σ) : W p l e rm_X12_told s m args below meth c H locs 0 0 (MQ below (va_Qi Qx (fun u t => Pw G D tc b0 u t) (AA b0)) args s 0 0 (AA b0)) (F0 m 0 ls []) := by
  have hx := C.1
  have hb := C.2.1
  unfold X_X12_told_0 at h
  refine x_iload_n C hl dX12_told_0 rfl ?_
  refine x_istore_n C hl dX12_told_1 (by decide) rfl (fun ls hl => ?_)
  refine x_aload_n C hl dX12_told_2 rfl ?_
  have t1 := h.1
  replace h := h.2
  refine x_get C hW (t := 12) (k := 82) t1 kl_12 (by decide) fl_X12_199 (v := rv b0 (mR σ l0 82)) rfl dX12_told_3 ?_
  refine x_iload_n C hl dX12_told_6 rfl ?_
  have t2 := h.1
  replace h := h.2
  have v3 := h.1
  replace h := h.2
  refine x_iald C hW t2 v3 dX12_told_7 ?_
  refine x_aload_n C hl dX12_told_8 rfl ?_
  refine x_get C hW (t := 12) (k := 83) t1 kl_12 (by decide) fl_X12_202 (v := rv b0 (mR σ l0 83)) rfl dX12_told_9 ?_
  refine x_iload_n C hl dX12_told_12 rfl ?_
  have t4 := h.1
  replace h := h.2
  have v5 := h.1
  replace h := h.2
  refine x_iald C hW t4 v5 dX12_told_13 ?_
  refine lv_iadd hx hb dX12_told_14 ?_
  refine lv_iconst (v := (1 : Int32)) hx hb dX12_told_15 (by decide) ?_
  refine lv_isub hx hb dX12_told_16 ?_
  refine x_istore C hl dX12_told_17 (by decide) rfl (fun ls hl => ?_)
  refine x_aload_n C hl dX12_told_19 rfl ?_
  refine x_get C hW (t := 12) (k := 82) t1 kl_12 (by decide) fl_X12_199 (v := rv b0 (mR σ l0 82)) rfl dX12_told_20 ?_
  refine x_iload_n C hl dX12_told_23 rfl ?_
  refine x_iald C hW t2 v3 dX12_told_24 ?_
  refine x_istore C hl dX12_told_25 (by decide) rfl (fun ls hl => ?_)
  exact t_X12_told_27 C hr hS hW (hl.keep [true, false, true, true, true, true, false, false] rfl) h
theorem T_X12_told (l : Launch) {G : Lay} {D : va_G} {tc : Nat → ClassId} {b0 : Nat} (l0 : Nat) (l1 : Int32) (l2 : Int32) (σ : Mem) (Qx : Int32 → Mem → Prop) (h : X_X12_told G Qx l0 l1 l2 σ) : MI l yX12_told cX12_told 8 ((some FieldType.int)) rm_X12_told G D tc b0 [rv b0 l0, .int l1, .int l2] σ Qx :=
  x_entry (y := yX12_told) [.inr (.inr l0), .inl l1, .inl l2] 5 (by decide) (Nat.le_of_ble_eq_true rfl) (fun p e s m args below meth c ls C hr hW hl => t_X12_told_0 C hr va_S.rf hW (hl.keep [true, true, true, false, false, false, false, false] rfl) h)
/-! X12_isTold -/
set_option maxRecDepth 20000 in
set_option maxHeartbeats 4000000 in
theorem t_X12_isTold_153 {p : Program} {l : Launch} {e : Env} {s : State} {m : MethodId} {args : Array Value} {below : List Frame} {meth : Method} {c : Code} {H : Heap} {locs : List Loc} {D : va_G} {tc : Nat → ClassId} {b0 : Nat} {ls : Array Slot} {G : Lay} {Qx : Int32 → Mem → Prop} {l0 : Nat} {l1 : Int32} {l2 : Int32} {l3 : Int32}  {K4 : Int32 × Int32 × Mem → Prop} {σ : Mem} (C : Cx p s m args meth c cX12_isTold RX12 7 D tc b0) (hr : meth.sig.returnType = (some FieldType.boolean)) (hK4 : ∀ (x2 : Int32) (x3 : Int32) (σ : Mem) (H : Heap) (locs : List Loc) (ls : Array Slot), va_S (AA b0) s.heap H locs → Wd G D tc b0 σ H → hL b0 ls 7 [some (.inr (.inr l0)), some (.inl l1), some (.inl x2), some (.inl x3), none, none, none] → K4 (x2, x3, σ) → W p l e rm_X12_isTold s m args below meth c H locs 0 0 (MQ below (va_Qi Qx (fun u t => Pw G D tc b0 u t) (AA b0)) args s 0 0 (AA b0)) (F0 m 4 ls [])) (hS : va_S (AA b0) s.heap H locs) (hW : Wd G D tc b0 σ H) (hl : hL b0 ls 7 [some (.inr (.inr l0)), some (.inl l1), some (.inl l2), some (.inl l3), none, none, none]) (h : X_X12_isTold_153 G Qx K4 l0 l1 l2 l3  σ) : W p l e rm_X12_isTold s m args below meth c H locs 0 0 (MQ below (va_Qi Qx (fun u t => Pw G D tc b0 u t) (AA b0)) args s 0 0 (AA b0)) (F0 m 153 ls []) := by
  have hx := C.1
  have hb := C.2.1
  unfold X_X12_isTold_153 at h
  refine x_iinc C hl dX12_isTold_153 rfl (v := (1 : Int32)) (by decide) (by decide) rfl (fun ls hl => ?_)
  refine lv_goto hx hb dX12_isTold_156 (tgt := 4) rfl ?_
  exact hK4 _ _ _ _ _ _ hS hW (hl.keep [true, true, true, true, false, false, false] rfl) h
set_option maxRecDepth 20000 in
set_option maxHeartbeats 4000000 in
theorem t_X12_isTold_134 {p : Program} {l : Launch} {e : Env} {s : State} {m : MethodId} {args : Array Value} {below : List Frame} {meth : Method} {c : Code} {H : Heap} {locs : List Loc} {D : va_G} {tc : Nat → ClassId} {b0 : Nat} {ls : Array Slot} {G : Lay} {Qx : Int32 → Mem → Prop} {l0 : Nat} {l1 : Int32} {l2 : Int32} {l3 : Int32} {k0 : Nat} {k1 : Int32} {k2 : Int32} {K4 : Int32 × Int32 × Mem → Prop} {σ : Mem} (C : Cx p s m args meth c cX12_isTold RX12 7 D tc b0) (hr : meth.sig.returnType = (some FieldType.boolean)) (hK4 : ∀ (x2 : Int32) (x3 : Int32) (σ : Mem) (H : Heap) (locs : List Loc) (ls : Array Slot), va_S (AA b0) s.heap H locs → Wd G D tc b0 σ H → hL b0 ls 7 [some (.inr (.inr l0)), some (.inl l1), some (.inl x2), some (.inl x3), none, none, none] → K4 (x2, x3, σ) → W p l e rm_X12_isTold s m args below meth c H locs 0 0 (MQ below (va_Qi Qx (fun u t => Pw G D tc b0 u t) (AA b0)) args s 0 0 (AA b0)) (F0 m 4 ls [])) (hS : va_S (AA b0) s.heap H locs) (hW : Wd G D tc b0 σ H) (hl : hL b0 ls 7 [some (.inr (.inr l0)), some (.inl l1), some (.inl l2), some (.inl l3), none, none, none]) (h : X_X12_isTold_134 G Qx K4 l0 l1 l2 l3 k0 k1 k2 σ) : W p l e rm_X12_isTold s m args below meth c H locs 0 0 (MQ below (va_Qi Qx (fun u t => Pw G D tc b0 u t) (AA b0)) args s 0 0 (AA b0)) (F0 m 134 ls [.int k2, .int k1, rv b0 k0]) := by
  have hx := C.1
  have hb := C.2.1
  unfold X_X12_isTold_134 at h
  have t1 := h.1
  replace h := h.2
  have v2 := h.1
  replace h := h.2
  refine x_iast C hW hS t1 v2 dX12_isTold_134 (fun H locs hW hS => ?_)
  obtain ⟨s3, e_s3⟩ : ∃ z : Mem, z = (sI σ k0 k1.toNatClampNeg k2) := ⟨_, rfl⟩
  replace h := h s3 e_s3
  replace hW : Wd G D tc b0 s3 H := by rw [e_s3]; exact hW
  refine lv_goto hx hb dX12_isTold_135 (tgt := 153) rfl ?_
  exact t_X12_isTold_153 C hr hK4 hS hW (hl.keep [true, true, true, true, false, false, false] rfl) h
set_option maxRecDepth 20000 in
set_option maxHeartbeats 4000000 in
theorem t_X12_isTold_122 {p : Program} {l : Launch} {e : Env} {s : State} {m : MethodId} {args : Array Value} {below : List Frame} {meth : Method} {c : Code} {H : Heap} {locs : List Loc} {D : va_G} {tc : Nat → ClassId} {b0 : Nat} {ls : Array Slot} {G : Lay} {Qx : Int32 → Mem → Prop} {l0 : Nat} {l1 : Int32} {l2 : Int32} {l3 : Int32} {l4 : Int32} {l5 : Int32} {l6 : Int32} {k0 : Nat} {k1 : Int32} {k2 : Int32} {K4 : Int32 × Int32 × Mem → Prop} {σ : Mem} (C : Cx p s m args meth c cX12_isTold RX12 7 D tc b0) (hr : meth.sig.returnType = (some FieldType.boolean)) (hK4 : ∀ (x2 : Int32) (x3 : Int32) (σ : Mem) (H : Heap) (locs : List Loc) (ls : Array Slot), va_S (AA b0) s.heap H locs → Wd G D tc b0 σ H → hL b0 ls 7 [some (.inr (.inr l0)), some (.inl l1), some (.inl x2), some (.inl x3), none, none, none] → K4 (x2, x3, σ) → W p l e rm_X12_isTold s m args below meth c H locs 0 0 (MQ below (va_Qi Qx (fun u t => Pw G D tc b0 u t) (AA b0)) args s 0 0 (AA b0)) (F0 m 4 ls [])) (hS : va_S (AA b0) s.heap H locs) (hW : Wd G D tc b0 σ H) (hl : hL b0 ls 7 [some (.inr (.inr l0)), some (.inl l1), some (.inl l2), some (.inl l3), some (.inl l4), some (.inl l5), some (.inl l6)]) (h : X_X12_isTold_122 G Qx K4 l0 l1 l2 l3 l4 l5 l6 k0 k1 k2 σ) : W p l e rm_X12_isTold s m args below meth c H locs 0 0 (MQ below (va_Qi Qx (fun u t => Pw G D tc b0 u t) (AA b0)) args s 0 0 (AA b0)) (F0 m 122 ls [.int k2, .int k1, rv b0 k0]) := by
  have hx := C.1
  have hb := C.2.1
  unfold X_X12_isTold_122 at h
  refine x_iload C hl dX12_isTold_122 rfl ?_
  refine lv_icmp_ne hx hb dX12_isTold_124 (tgt := 132) rfl (fun hc => ?_) (fun hc => ?_)
  · replace h := h.2 hc
    refine x_iload C hl dX12_isTold_132 rfl ?_
    exact t_X12_isTold_134 C hr hK4 hS hW (hl.keep [true, true, true, true, false, false, false] rfl) h
  · replace h := h.1 hc
    refine x_iload C hl dX12_isTold_127 rfl ?_
    refine lv_goto hx hb dX12_isTold_129 (tgt := 134) rfl ?_
    exact t_X12_isTold_134 C hr hK4 hS hW (hl.keep [true, true, true, true, false, false, false] rfl) h
set_option maxRecDepth 20000 in
set_option maxHeartbeats 4000000 in
theorem t_X12_isTold_101 {p : Program} {l : Launch} {e : Env} {s : State} {m : MethodId} {args : Array Value} {below : List Frame} {meth : Method} {c : Code} {H : Heap} {locs : List Loc} {D : va_G} {tc : Nat → ClassId} {b0 : Nat} {ls : Array Slot} {G : Lay} {Qx : Int32 → Mem → Prop} {l0 : Nat} {l1 : Int32} {l2 : Int32} {l3 : Int32} {l4 : Int32} {l5 : Int32} {k0 : Int32} {K4 : Int32 × Int32 × Mem → Prop} {σ : Mem} (C : Cx p s m args meth c cX12_isTold RX12 7 D tc b0) (hr : meth.sig.returnType = (some FieldType.boolean)) (hK4 : ∀ (x2 : Int32) (x3 : Int32) (σ : Mem) (H : Heap) (locs : List Loc) (ls : Array Slot), va_S (AA b0) s.heap H locs → Wd G D tc b0 σ H → hL b0 ls 7 [some (.inr (.inr l0)), some (.inl l1), some (.inl x2), some (.inl x3), none, none, none] → K4 (x2, x3, σ) → W p l e rm_X12_isTold s m args below meth c H locs 0 0 (MQ below (va_Qi Qx (fun u t => Pw G D tc b0 u t) (AA b0)) args s 0 0 (AA b0)) (F0 m 4 ls [])) (hS : va_S (AA b0) s.heap H locs) (hW : Wd G D tc b0 σ H) (hl : hL b0 ls 7 [some (.inr (.inr l0)), some (.inl l1), some (.inl l2), some (.inl l3), some (.inl l4), some (.inl l5), none]) (h : X_X12_isTold_101 G Qx K4 l0 l1 l2 l3 l4 l5 k0 σ) : W p l e rm_X12_isTold s m args below meth c H locs 0 0 (MQ below (va_Qi Qx (fun u t => Pw G D tc b0 u t) (AA b0)) args s 0 0 (AA b0)) (F0 m 101 ls [.int k0]) := by
  have hx := C.1
  have hb := C.2.1
  unfold X_X12_isTold_101 at h
  refine x_istore C hl dX12_isTold_101 (by decide) rfl (fun ls hl => ?_)
  refine x_aload_n C hl dX12_isTold_103 rfl ?_
  have t1 := h.1
  replace h := h.2
  refine x_get C hW (t := 12) (k := 94) t1 kl_12 (by decide) fl_X12_220 (v := rv b0 (mR σ l0 94)) rfl dX12_isTold_104 ?_
  refine x_iload_n C hl dX12_isTold_107 rfl ?_
  refine lv_iconst (v := (1 : Int32)) hx hb dX12_isTold_108 (by decide) ?_
  refine lv_isub hx hb dX12_isTold_109 ?_
  refine x_iload C hl dX12_isTold_110 rfl ?_
  refine x_iload C hl dX12_isTold_112 rfl ?_
  refine lv_icmp_ge hx hb dX12_isTold_114 (tgt := 121) rfl (fun hc => ?_) (fun hc => ?_)
  · replace h := h.1 hc
    refine lv_iconst (v := (0 : Int32)) hx hb dX12_isTold_121 (by decide) ?_
    exact t_X12_isTold_122 C hr hK4 hS hW (hl.keep [true, true, true, true, true, true, true] rfl) h
  · replace h := h.2 hc
    refine lv_iconst (v := (1 : Int32)) hx hb dX12_isTold_117 (by decide) ?_
    refine lv_goto hx hb dX12_isTold_118 (tgt := 122) rfl ?_
    exact t_X12_isTold_122 C hr hK4 hS hW (hl.keep [true, true, true, true, true, true, true] rfl) h
set_option maxRecDepth 20000 in
set_option maxHeartbeats 4000000 in
theorem t_X12_isTold_63 {p : Program} {l : Launch} {e : Env} {s : State} {m : MethodId} {args : Array Value} {below : List Frame} {meth : Method} {c : Code} {H : Heap} {locs : List Loc} {D : va_G} {tc : Nat → ClassId} {b0 : Nat} {ls : Array Slot} {G : Lay} {Qx : Int32 → Mem → Prop} {l0 : Nat} {l1 : Int32} {l2 : Int32} {l3 : Int32}  {K4 : Int32 × Int32 × Mem → Prop} {σ : Mem} (C : Cx p s m args meth c cX12_isTold RX12 7 D tc b0) (hr : meth.sig.returnType = (some FieldType.boolean)) (hK4 : ∀ (x2 : Int32) (x3 : Int32) (σ : Mem) (H : Heap) (locs : List Loc) (ls : Array Slot), va_S (AA b0) s.heap H locs → Wd G D tc b0 σ H → hL b0 ls 7 [some (.inr (.inr l0)), some (.inl l1), some (.inl x2), some (.inl x3), none, none, none] → K4 (x2, x3, σ) → W p l e rm_X12_isTold s m args below meth c H locs 0 0 (MQ below (va_Qi Qx (fun u t => Pw G D tc b0 u t) (AA b0)) args s 0 0 (AA b0)) (F0 m 4 ls [])) (hS : va_S (AA b0) s.heap H locs) (hW : Wd G D tc b0 σ H) (hl : hL b0 ls 7 [some (.inr (.inr l0)), some (.inl l1), some (.inl l2), some (.inl l3), none, none, none]) (h : X_X12_isTold_63 G Qx K4 l0 l1 l2 l3  σ) : W p l e rm_X12_isTold s m args below meth c H locs 0 0 (MQ below (va_Qi Qx (fun u t => Pw G D tc b0 u t) (AA b0)) args s 0 0 (AA b0)) (F0 m 63 ls []) := by
  have hx := C.1
  have hb := C.2.1
  unfold X_X12_isTold_63 at h
  refine x_aload_n C hl dX12_isTold_63 rfl ?_
  have t1 := h.1
  replace h := h.2
  refine x_get C hW (t := 12) (k := 94) t1 kl_12 (by decide) fl_X12_220 (v := rv b0 (mR σ l0 94)) rfl dX12_isTold_64 ?_
  refine x_iload_n C hl dX12_isTold_67 rfl ?_
  refine lv_iconst (v := (1 : Int32)) hx hb dX12_isTold_68 (by decide) ?_
  refine lv_isub hx hb dX12_isTold_69 ?_
  have t2 := h.1
  replace h := h.2
  have v3 := h.1
  replace h := h.2
  refine x_iald C hW t2 v3 dX12_isTold_70 ?_
  refine x_istore C hl dX12_isTold_71 (by decide) rfl (fun ls hl => ?_)
  refine x_aload_n C hl dX12_isTold_73 rfl ?_
  refine x_get C hW (t := 12) (k := 94) t1 kl_12 (by decide) fl_X12_220 (v := rv b0 (mR σ l0 94)) rfl dX12_isTold_74 ?_
  refine x_iload_n C hl dX12_isTold_77 rfl ?_
  refine lv_iconst (v := (2 : Int32)) hx hb dX12_isTold_78 (by decide) ?_
  refine lv_isub hx hb dX12_isTold_79 ?_
  have v4 := h.1
  replace h := h.2
  refine x_iald C hW t2 v4 dX12_isTold_80 ?_
  refine x_istore C hl dX12_isTold_81 (by decide) rfl (fun ls hl => ?_)
  refine x_iinc C hl dX12_isTold_83 rfl (v := (-1 : Int32)) (by decide) (by decide) rfl (fun ls hl => ?_)
  refine x_aload_n C hl dX12_isTold_86 rfl ?_
  refine x_get C hW (t := 12) (k := 81) t1 kl_12 (by decide) fl_X12_196 (v := rv b0 (mR σ l0 81)) rfl dX12_isTold_87 ?_
  refine x_iload_n C hl dX12_isTold_90 rfl ?_
  have t5 := h.1
  replace h := h.2
  have v6 := h.1
  replace h := h.2
  refine x_iald C hW t5 v6 dX12_isTold_91 ?_
  refine lv_iconst (v := (3 : Int32)) hx hb dX12_isTold_92 (by decide) ?_
  refine lv_icmp_ne hx hb dX12_isTold_93 (tgt := 100) rfl (fun hc => ?_) (fun hc => ?_)
  · replace h := h.2 hc
    refine lv_iconst (v := (0 : Int32)) hx hb dX12_isTold_100 (by decide) ?_
    exact t_X12_isTold_101 C hr hK4 hS hW (hl.keep [true, true, true, true, true, true, false] rfl) h
  · replace h := h.1 hc
    refine lv_iconst (v := (1 : Int32)) hx hb dX12_isTold_96 (by decide) ?_
    refine lv_goto hx hb dX12_isTold_97 (tgt := 101) rfl ?_
    exact t_X12_isTold_101 C hr hK4 hS hW (hl.keep [true, true, true, true, true, true, false] rfl) h
set_option maxRecDepth 20000 in
set_option maxHeartbeats 4000000 in
theorem t_X12_isTold_181 {p : Program} {l : Launch} {e : Env} {s : State} {m : MethodId} {args : Array Value} {below : List Frame} {meth : Method} {c : Code} {H : Heap} {locs : List Loc} {D : va_G} {tc : Nat → ClassId} {b0 : Nat} {ls : Array Slot} {G : Lay} {Qx : Int32 → Mem → Prop}  {k0 : Int32} {σ : Mem} (C : Cx p s m args meth c cX12_isTold RX12 7 D tc b0) (hr : meth.sig.returnType = (some FieldType.boolean)) (hS : va_S (AA b0) s.heap H locs) (hW : Wd G D tc b0 σ H) (hl : hL b0 ls 7 [none, none, none, none, none, none, none]) (h : X_X12_isTold_181 G Qx  k0 σ) : W p l e rm_X12_isTold s m args below meth c H locs 0 0 (MQ below (va_Qi Qx (fun u t => Pw G D tc b0 u t) (AA b0)) args s 0 0 (AA b0)) (F0 m 181 ls [.int k0]) := by
  have hx := C.1
  have hb := C.2.1
  unfold X_X12_isTold_181 at h
  exact r_z C hr hW hS h.1 h.2 dX12_isTold_181
set_option maxRecDepth 20000 in
set_option maxHeartbeats 4000000 in
theorem t_X12_isTold_176 {p : Program} {l : Launch} {e : Env} {s : State} {m : MethodId} {args : Array Value} {below : List Frame} {meth : Method} {c : Code} {H : Heap} {locs : List Loc} {D : va_G} {tc : Nat → ClassId} {b0 : Nat} {ls : Array Slot} {G : Lay} {Qx : Int32 → Mem → Prop}   {σ : Mem} (C : Cx p s m args meth c cX12_isTold RX12 7 D tc b0) (hr : meth.sig.returnType = (some FieldType.boolean)) (hS : va_S (AA b0) s.heap H locs) (hW : Wd G D tc b0 σ H) (hl : hL b0 ls 7 [none, none, none, none, none, none, none]) (h : X_X12_isTold_176 G Qx   σ) : W p l e rm_X12_isTold s m args below meth c H locs 0 0 (MQ below (va_Qi Qx (fun u t => Pw G D tc b0 u t) (AA b0)) args s 0 0 (AA b0)) (F0 m 176 ls []) := by
  have hx := C.1
  have hb := C.2.1
  unfold X_X12_isTold_176 at h
  refine lv_iconst (v := (1 : Int32)) hx hb dX12_isTold_176 (by decide) ?_
  refine lv_goto hx hb dX12_isTold_177 (tgt := 181) rfl ?_
  exact t_X12_isTold_181 C hr hS hW (hl.keep [false, false, false, false, false, false, false] rfl) h
set_option maxRecDepth 20000 in
set_option maxHeartbeats 4000000 in
theorem t_X12_isTold_4_n {p : Program} {l : Launch} {e : Env} {s : State} {m : MethodId} {args : Array Value} {below : List Frame} {meth : Method} {c : Code} {D : va_G} {tc : Nat → ClassId} {b0 : Nat} {G : Lay} {Qx : Int32 → Mem → Prop} {l0 : Nat} {l1 : Int32} (C : Cx p s m args meth c cX12_isTold RX12 7 D tc b0) (hr : meth.sig.returnType = (some FieldType.boolean)) (n : Nat) : ∀ (l2 : Int32) (l3 : Int32) (σ : Mem) (H : Heap) (locs : List Loc) (ls : Array Slot), va_S (AA b0) s.heap H locs → Wd G D tc b0 σ H → hL b0 ls 7 [some (.inr (.inr l0)), some (.inl l1), some (.inl l2), some (.inl l3), none, none, none] → Lp (X_X12_isTold_4_s G Qx l0 l1) n (l2, l3, σ) → W p l e rm_X12_isTold s m args below meth c H locs 0 0 (MQ below (va_Qi Qx (fun u t => Pw G D tc b0 u t) (AA b0)) args s 0 0 (AA b0)) (F0 m 4 ls []) := by
  have hx := C.1
  have hb := C.2.1
  induction n with
  | zero => intro l2 l3 σ H locs ls hS hW hl h; exact False.elim h
  | succ n hK4 =>
    intro l2 l3 σ H locs ls hS hW hl h
    replace h : X_X12_isTold_4_s G Qx l0 l1 (Lp (X_X12_isTold_4_s G Qx l0 l1) n) (l2, l3, σ) := h
    unfold X_X12_isTold_4_s at h
    refine x_iload_n C hl dX12_isTold_4 rfl ?_
    refine x_aload_n C hl dX12_isTold_5 rfl ?_
    have t1 := h.1
    replace h := h.2
    refine x_get C hW (t := 12) (k := 80) t1 kl_12 (by decide) fl_X12_497 (v := .int (mI σ l0 80)) rfl dX12_isTold_6 ?_
    refine lv_icmp_ge hx hb dX12_isTold_9 (tgt := 159) rfl (fun hc => ?_) (fun hc => ?_)
    · replace h := h.1 hc
      refine x_aload_n C hl dX12_isTold_159 rfl ?_
      refine x_get C hW (t := 12) (k := 80) t1 kl_12 (by decide) fl_X12_497 (v := .int (mI σ l0 80)) rfl dX12_isTold_160 ?_
      refine lv_if_eq hx hb dX12_isTold_163 (tgt := 176) rfl (fun hc => ?_) (fun hc => ?_)
      · replace h := h.1 hc
        exact t_X12_isTold_176 C hr hS hW (hl.keep [false, false, false, false, false, false, false] rfl) h
      · replace h := h.2 hc
        refine x_aload_n C hl dX12_isTold_166 rfl ?_
        refine x_get C hW (t := 12) (k := 94) t1 kl_12 (by decide) fl_X12_220 (v := rv b0 (mR σ l0 94)) rfl dX12_isTold_167 ?_
        refine lv_iconst (v := (0 : Int32)) hx hb dX12_isTold_170 (by decide) ?_
        have t2 := h.1
        replace h := h.2
        have v3 := h.1
        replace h := h.2
        refine x_iald C hW t2 v3 dX12_isTold_171 ?_
        refine lv_iconst (v := (2 : Int32)) hx hb dX12_isTold_172 (by decide) ?_
        refine lv_icmp_ne hx hb dX12_isTold_173 (tgt := 180) rfl (fun hc => ?_) (fun hc => ?_)
        · replace h := h.2 hc
          refine lv_iconst (v := (0 : Int32)) hx hb dX12_isTold_180 (by decide) ?_
          exact t_X12_isTold_181 C hr hS hW (hl.keep [false, false, false, false, false, false, false] rfl) h
        · replace h := h.1 hc
          exact t_X12_isTold_176 C hr hS hW (hl.keep [false, false, false, false, false, false, false] rfl) h
    · replace h := h.2 hc
      refine x_aload_n C hl dX12_isTold_12 rfl ?_
      refine x_get C hW (t := 12) (k := 81) t1 kl_12 (by decide) fl_X12_196 (v := rv b0 (mR σ l0 81)) rfl dX12_isTold_13 ?_
      refine x_iload_n C hl dX12_isTold_16 rfl ?_
      have t4 := h.1
      replace h := h.2
      have v5 := h.1
      replace h := h.2
      refine x_iald C hW t4 v5 dX12_isTold_17 ?_
      refine lv_iconst (v := (2 : Int32)) hx hb dX12_isTold_18 (by decide) ?_
      refine lv_icmp_ne hx hb dX12_isTold_19 (tgt := 43) rfl (fun hc => ?_) (fun hc => ?_)
      · replace h := h.2 hc
        refine x_aload_n C hl dX12_isTold_43 rfl ?_
        refine x_get C hW (t := 12) (k := 81) t1 kl_12 (by decide) fl_X12_196 (v := rv b0 (mR σ l0 81)) rfl dX12_isTold_44 ?_
        refine x_iload_n C hl dX12_isTold_47 rfl ?_
        refine x_iald C hW t4 v5 dX12_isTold_48 ?_
        refine lv_iconst (v := (3 : Int32)) hx hb dX12_isTold_49 (by decide) ?_
        refine lv_icmp_eq hx hb dX12_isTold_50 (tgt := 63) rfl (fun hc => ?_) (fun hc => ?_)
        · replace h := h.1 hc
          exact t_X12_isTold_63 C hr hK4 hS hW (hl.keep [true, true, true, true, false, false, false] rfl) h
        · replace h := h.2 hc
          refine x_aload_n C hl dX12_isTold_53 rfl ?_
          refine x_get C hW (t := 12) (k := 81) t1 kl_12 (by decide) fl_X12_196 (v := rv b0 (mR σ l0 81)) rfl dX12_isTold_54 ?_
          refine x_iload_n C hl dX12_isTold_57 rfl ?_
          refine x_iald C hW t4 v5 dX12_isTold_58 ?_
          refine lv_iconst (v := (4 : Int32)) hx hb dX12_isTold_59 (by decide) ?_
          refine lv_icmp_ne hx hb dX12_isTold_60 (tgt := 138) rfl (fun hc => ?_) (fun hc => ?_)
          · replace h := h.2 hc
            refine x_aload_n C hl dX12_isTold_138 rfl ?_
            refine x_get C hW (t := 12) (k := 94) t1 kl_12 (by decide) fl_X12_220 (v := rv b0 (mR σ l0 94)) rfl dX12_isTold_139 ?_
            refine x_iload_n C hl dX12_isTold_142 rfl ?_
            refine x_aload_n C hl dX12_isTold_143 rfl ?_
            refine x_iload_n C hl dX12_isTold_144 rfl ?_
            refine x_iload_n C hl dX12_isTold_145 rfl ?_
            refine y_i (x_run (As := [.int l1, .int l3]) C hW hS (T_X12_told l l0 l1 l3 σ _ h) t1 kl_12 (CW.of yv_X12_told ml_X12_535) ⟨rfl, rfl, ⟨by decide, by decide⟩, by decide, by decide⟩ rfl hl.1 rfl (by simp [rv_cat, cat_i, cat_l]) dX12_isTold_146) hS (fun w7 s6 H locs h hW hS => ?_)
            have t8 := h.1
            replace h := h.2
            have v9 := h.1
            replace h := h.2
            refine x_iast C hW hS t8 v9 dX12_isTold_149 (fun H locs hW hS => ?_)
            obtain ⟨s10, e_s10⟩ : ∃ z : Mem, z = (sI s6 (mR σ l0 94) l2.toNatClampNeg w7) := ⟨_, rfl⟩
            replace h := h s10 e_s10
            replace hW : Wd G D tc b0 s10 H := by rw [e_s10]; exact hW
            refine x_iinc C hl dX12_isTold_150 rfl (v := (1 : Int32)) (by decide) (by decide) rfl (fun ls hl => ?_)
            exact t_X12_isTold_153 C hr hK4 hS hW (hl.keep [true, true, true, true, false, false, false] rfl) h
          · replace h := h.1 hc
            exact t_X12_isTold_63 C hr hK4 hS hW (hl.keep [true, true, true, true, false, false, false] rfl) h
      · replace h := h.1 hc
        refine x_aload_n C hl dX12_isTold_22 rfl ?_
        refine x_get C hW (t := 12) (k := 94) t1 kl_12 (by decide) fl_X12_220 (v := rv b0 (mR σ l0 94)) rfl dX12_isTold_23 ?_
        refine x_iload_n C hl dX12_isTold_26 rfl ?_
        refine lv_iconst (v := (1 : Int32)) hx hb dX12_isTold_27 (by decide) ?_
        refine lv_isub hx hb dX12_isTold_28 ?_
        refine lv_iconst (v := (2 : Int32)) hx hb dX12_isTold_29 (by decide) ?_
        refine x_aload_n C hl dX12_isTold_30 rfl ?_
        refine x_get C hW (t := 12) (k := 94) t1 kl_12 (by decide) fl_X12_220 (v := rv b0 (mR σ l0 94)) rfl dX12_isTold_31 ?_
        refine x_iload_n C hl dX12_isTold_34 rfl ?_
        refine lv_iconst (v := (1 : Int32)) hx hb dX12_isTold_35 (by decide) ?_
        refine lv_isub hx hb dX12_isTold_36 ?_
        have t11 := h.1
        replace h := h.2
        have v12 := h.1
        replace h := h.2
        refine x_iald C hW t11 v12 dX12_isTold_37 ?_
        refine lv_isub hx hb dX12_isTold_38 ?_
        refine x_iast C hW hS t11 v12 dX12_isTold_39 (fun H locs hW hS => ?_)
        obtain ⟨s13, e_s13⟩ : ∃ z : Mem, z = (sI σ (mR σ l0 94) (l2 - (1 : Int32)).toNatClampNeg ((2 : Int32) - (mI σ (mR σ l0 94) (l2 - (1 : Int32)).toNatClampNeg))) := ⟨_, rfl⟩
        replace h := h s13 e_s13
        replace hW : Wd G D tc b0 s13 H := by rw [e_s13]; exact hW
        refine lv_goto hx hb dX12_isTold_40 (tgt := 153) rfl ?_
        exact t_X12_isTold_153 C hr hK4 hS hW (hl.keep [true, true, true, true, false, false, false] rfl) h
set_option maxRecDepth 20000 in
set_option maxHeartbeats 4000000 in
theorem t_X12_isTold_4 {p : Program} {l : Launch} {e : Env} {s : State} {m : MethodId} {args : Array Value} {below : List Frame} {meth : Method} {c : Code} {H : Heap} {locs : List Loc} {D : va_G} {tc : Nat → ClassId} {b0 : Nat} {ls : Array Slot} {G : Lay} {Qx : Int32 → Mem → Prop} {l0 : Nat} {l1 : Int32} {l2 : Int32} {l3 : Int32}  {σ : Mem} (C : Cx p s m args meth c cX12_isTold RX12 7 D tc b0) (hr : meth.sig.returnType = (some FieldType.boolean)) (hS : va_S (AA b0) s.heap H locs) (hW : Wd G D tc b0 σ H) (hl : hL b0 ls 7 [some (.inr (.inr l0)), some (.inl l1), some (.inl l2), some (.inl l3), none, none, none]) (h : X_X12_isTold_4 G Qx l0 l1 l2 l3 σ) : W p l e rm_X12_isTold s m args below meth c H locs 0 0 (MQ below (va_Qi Qx (fun u t => Pw G D tc b0 u t) (AA b0)) args s 0 0 (AA b0)) (F0 m 4 ls []) := by
  obtain ⟨n, h⟩ := h
  exact t_X12_isTold_4_n C hr n l2 l3 σ H locs ls hS hW hl h
set_option maxRecDepth 20000 in
set_option maxHeartbeats 4000000 in
theorem t_X12_isTold_0 {p : Program} {l : Launch} {e : Env} {s : State} {m : MethodId} {args : Array Value} {below : List Frame} {meth : Method} {c : Code} {H : Heap} {locs : List Loc} {D : va_G} {tc : Nat → ClassId} {b0 : Nat} {ls : Array Slot} {G : Lay} {Qx : Int32 → Mem → Prop} {l0 : Nat} {l1 : Int32}  {σ : Mem} (C : Cx p s m args meth c cX12_isTold RX12 7 D tc b0) (hr : meth.sig.returnType = (some FieldType.boolean)) (hS : va_S (AA b0) s.heap H locs) (hW : Wd G D tc b0 σ H) (hl : hL b0 ls 7 [some (.inr (.inr l0)), some (.inl l1), none, none, none, none, none]) (h : X_X12_isTold_0 G Qx l0 l1  σ) : W p l e rm_X12_isTold s m args below meth c H locs 0 0 (MQ below (va_Qi Qx (fun u t => Pw G D tc b0 u t) (AA b0)) args s 0 0 (AA b0)) (F0 m 0 ls []) := by
  have hx := C.1
  have hb := C.2.1
  unfold X_X12_isTold_0 at h
  refine lv_iconst (v := (0 : Int32)) hx hb dX12_isTold_0 (by decide) ?_
  refine x_istore_n C hl dX12_isTold_1 (by decide) rfl (fun ls hl => ?_)
  refine lv_iconst (v := (0 : Int32)) hx hb dX12_isTold_2 (by decide) ?_
  refine x_istore_n C hl dX12_isTold_3 (by decide) rfl (fun ls hl => ?_)
  exact t_X12_isTold_4 C hr hS hW (hl.keep [true, true, true, true, false, false, false] rfl) h
theorem T_X12_isTold (l : Launch) {G : Lay} {D : va_G} {tc : Nat → ClassId} {b0 : Nat} (l0 : Nat) (l1 : Int32) (σ : Mem) (Qx : Int32 → Mem → Prop) (h : X_X12_isTold G Qx l0 l1 σ) : MI l yX12_isTold cX12_isTold 7 ((some FieldType.boolean)) rm_X12_isTold G D tc b0 [rv b0 l0, .int l1] σ Qx :=
  x_entry (y := yX12_isTold) [.inr (.inr l0), .inl l1] 5 (by decide) (Nat.le_of_ble_eq_true rfl) (fun p e s m args below meth c ls C hr hW hl => t_X12_isTold_0 C hr va_S.rf hW (hl.keep [true, true, false, false, false, false, false] rfl) h)
/-! X12_ask -/
set_option maxRecDepth 20000 in
set_option maxHeartbeats 4000000 in
theorem t_X12_ask_125 {p : Program} {l : Launch} {e : Env} {s : State} {m : MethodId} {args : Array Value} {below : List Frame} {meth : Method} {c : Code} {H : Heap} {locs : List Loc} {D : va_G} {tc : Nat → ClassId} {b0 : Nat} {ls : Array Slot} {G : Lay} {Qx : Int32 → Mem → Prop} {l0 : Nat} {l4 : Int32}  {K59 : Int32 × Mem → Prop} {σ : Mem} (C : Cx p s m args meth c cX12_ask RX12 5 D tc b0) (hr : meth.sig.returnType = (some FieldType.int)) (hK59 : ∀ (x4 : Int32) (σ : Mem) (H : Heap) (locs : List Loc) (ls : Array Slot), va_S (AA b0) s.heap H locs → Wd G D tc b0 σ H → hL b0 ls 5 [some (.inr (.inr l0)), none, none, none, some (.inl x4)] → K59 (x4, σ) → W p l e rm_X12_ask s m args below meth c H locs 0 0 (MQ below (va_Qi Qx (fun u t => Pw G D tc b0 u t) (AA b0)) args s 0 0 (AA b0)) (F0 m 59 ls [])) (hS : va_S (AA b0) s.heap H locs) (hW : Wd G D tc b0 σ H) (hl : hL b0 ls 5 [some (.inr (.inr l0)), none, none, none, some (.inl l4)]) (h : X_X12_ask_125 G Qx K59 l0 l4  σ) : W p l e rm_X12_ask s m args below meth c H locs 0 0 (MQ below (va_Qi Qx (fun u t => Pw G D tc b0 u t) (AA b0)) args s 0 0 (AA b0)) (F0 m 125 ls []) := by
  have hx := C.1
  have hb := C.2.1
  unfold X_X12_ask_125 at h
  refine x_iinc C hl dX12_ask_125 rfl (v := (1 : Int32)) (by decide) (by decide) rfl (fun ls hl => ?_)
  refine lv_goto hx hb dX12_ask_128 (tgt := 59) rfl ?_
  exact hK59 _ _ _ _ _ hS hW (hl.keep [true, false, false, false, true] rfl) h
set_option maxRecDepth 20000 in
set_option maxHeartbeats 4000000 in
theorem t_X12_ask_142_n {p : Program} {l : Launch} {e : Env} {s : State} {m : MethodId} {args : Array Value} {below : List Frame} {meth : Method} {c : Code} {D : va_G} {tc : Nat → ClassId} {b0 : Nat} {G : Lay} {Qx : Int32 → Mem → Prop} {l0 : Nat} (C : Cx p s m args meth c cX12_ask RX12 5 D tc b0) (hr : meth.sig.returnType = (some FieldType.int)) (n : Nat) : ∀ (l4 : Int32) (σ : Mem) (H : Heap) (locs : List Loc) (ls : Array Slot), va_S (AA b0) s.heap H locs → Wd G D tc b0 σ H → hL b0 ls 5 [some (.inr (.inr l0)), none, none, none, some (.inl l4)] → Lp (X_X12_ask_142_s G Qx l0) n (l4, σ) → W p l e rm_X12_ask s m args below meth c H locs 0 0 (MQ below (va_Qi Qx (fun u t => Pw G D tc b0 u t) (AA b0)) args s 0 0 (AA b0)) (F0 m 142 ls []) := by
  have hx := C.1
  have hb := C.2.1
  induction n with
  | zero => intro l4 σ H locs ls hS hW hl h; exact False.elim h
  | succ n hK142 =>
    intro l4 σ H locs ls hS hW hl h
    replace h : X_X12_ask_142_s G Qx l0 (Lp (X_X12_ask_142_s G Qx l0) n) (l4, σ) := h
    unfold X_X12_ask_142_s at h
    refine x_iload C hl dX12_ask_142 rfl ?_
    refine x_aload_n C hl dX12_ask_144 rfl ?_
    have t1 := h.1
    replace h := h.2
    refine x_get C hW (t := 12) (k := 90) t1 kl_12 (by decide) fl_X12_347 (v := .int (mI σ l0 90)) rfl dX12_ask_145 ?_
    refine lv_icmp_ge hx hb dX12_ask_148 (tgt := 171) rfl (fun hc => ?_) (fun hc => ?_)
    · replace h := h.1 hc
      refine x_aload_n C hl dX12_ask_171 rfl ?_
      refine x_get C hW (t := 12) (k := 90) t1 kl_12 (by decide) fl_X12_347 (v := .int (mI σ l0 90)) rfl dX12_ask_172 ?_
      exact r_i C hr hW hS h dX12_ask_175
    · replace h := h.2 hc
      refine x_aload_n C hl dX12_ask_151 rfl ?_
      refine x_get C hW (t := 12) (k := 91) t1 kl_12 (by decide) fl_X12_214 (v := rv b0 (mR σ l0 91)) rfl dX12_ask_152 ?_
      refine x_iload C hl dX12_ask_155 rfl ?_
      refine x_aload_n C hl dX12_ask_157 rfl ?_
      refine x_get C hW (t := 12) (k := 61) t1 kl_12 (by decide) fl_X12_148 (v := rv b0 (mR σ l0 61)) rfl dX12_ask_158 ?_
      refine x_iload C hl dX12_ask_161 rfl ?_
      have t2 := h.1
      replace h := h.2
      have v3 := h.1
      replace h := h.2
      refine x_iald C hW t2 v3 dX12_ask_163 ?_
      have t4 := h.1
      replace h := h.2
      have v5 := h.1
      replace h := h.2
      refine x_iast C hW hS t4 v5 dX12_ask_164 (fun H locs hW hS => ?_)
      obtain ⟨s6, e_s6⟩ : ∃ z : Mem, z = (sI σ (mR σ l0 91) l4.toNatClampNeg (mI σ (mR σ l0 61) l4.toNatClampNeg)) := ⟨_, rfl⟩
      replace h := h s6 e_s6
      replace hW : Wd G D tc b0 s6 H := by rw [e_s6]; exact hW
      refine x_iinc C hl dX12_ask_165 rfl (v := (1 : Int32)) (by decide) (by decide) rfl (fun ls hl => ?_)
      refine lv_goto hx hb dX12_ask_168 (tgt := 142) rfl ?_
      exact hK142 _ _ _ _ _ hS hW (hl.keep [true, false, false, false, true] rfl) h
set_option maxRecDepth 20000 in
set_option maxHeartbeats 4000000 in
theorem t_X12_ask_142 {p : Program} {l : Launch} {e : Env} {s : State} {m : MethodId} {args : Array Value} {below : List Frame} {meth : Method} {c : Code} {H : Heap} {locs : List Loc} {D : va_G} {tc : Nat → ClassId} {b0 : Nat} {ls : Array Slot} {G : Lay} {Qx : Int32 → Mem → Prop} {l0 : Nat} {l4 : Int32}  {σ : Mem} (C : Cx p s m args meth c cX12_ask RX12 5 D tc b0) (hr : meth.sig.returnType = (some FieldType.int)) (hS : va_S (AA b0) s.heap H locs) (hW : Wd G D tc b0 σ H) (hl : hL b0 ls 5 [some (.inr (.inr l0)), none, none, none, some (.inl l4)]) (h : X_X12_ask_142 G Qx l0 l4 σ) : W p l e rm_X12_ask s m args below meth c H locs 0 0 (MQ below (va_Qi Qx (fun u t => Pw G D tc b0 u t) (AA b0)) args s 0 0 (AA b0)) (F0 m 142 ls []) := by
  obtain ⟨n, h⟩ := h
  exact t_X12_ask_142_n C hr n l4 σ H locs ls hS hW hl h
set_option maxRecDepth 20000 in
set_option maxHeartbeats 4000000 in
theorem t_X12_ask_59_n {p : Program} {l : Launch} {e : Env} {s : State} {m : MethodId} {args : Array Value} {below : List Frame} {meth : Method} {c : Code} {D : va_G} {tc : Nat → ClassId} {b0 : Nat} {G : Lay} {Qx : Int32 → Mem → Prop} {l0 : Nat} (C : Cx p s m args meth c cX12_ask RX12 5 D tc b0) (hr : meth.sig.returnType = (some FieldType.int)) (n : Nat) : ∀ (l4 : Int32) (σ : Mem) (H : Heap) (locs : List Loc) (ls : Array Slot), va_S (AA b0) s.heap H locs → Wd G D tc b0 σ H → hL b0 ls 5 [some (.inr (.inr l0)), none, none, none, some (.inl l4)] → Lp (X_X12_ask_59_s G Qx l0) n (l4, σ) → W p l e rm_X12_ask s m args below meth c H locs 0 0 (MQ below (va_Qi Qx (fun u t => Pw G D tc b0 u t) (AA b0)) args s 0 0 (AA b0)) (F0 m 59 ls []) := by
  have hx := C.1
  have hb := C.2.1
  induction n with
  | zero => intro l4 σ H locs ls hS hW hl h; exact False.elim h
  | succ n hK59 =>
    intro l4 σ H locs ls hS hW hl h
    replace h : X_X12_ask_59_s G Qx l0 (Lp (X_X12_ask_59_s G Qx l0) n) (l4, σ) := h
    unfold X_X12_ask_59_s at h
    refine x_iload C hl dX12_ask_59 rfl ?_
    refine x_aload_n C hl dX12_ask_61 rfl ?_
    have t1 := h.1
    replace h := h.2
    refine x_get C hW (t := 12) (k := 26) t1 kl_12 (by decide) fl_X12_344 (v := .int (mI σ l0 26)) rfl dX12_ask_62 ?_
    refine lv_icmp_ge hx hb dX12_ask_65 (tgt := 131) rfl (fun hc => ?_) (fun hc => ?_)
    · replace h := h.1 hc
      refine x_aload_n C hl dX12_ask_131 rfl ?_
      refine x_aload_n C hl dX12_ask_132 rfl ?_
      refine x_get C hW (t := 12) (k := 60) t1 kl_12 (by decide) fl_X12_421 (v := .int (mI σ l0 60)) rfl dX12_ask_133 ?_
      refine x_putI C hW hS (t := 12) (k := 90) t1 kl_12 (by decide) fl_X12_347 rfl rfl rfl rfl dX12_ask_136 (fun H locs hW hS => ?_)
      obtain ⟨s2, e_s2⟩ : ∃ z : Mem, z = (sI σ l0 90 (mI σ l0 60)) := ⟨_, rfl⟩
      replace h := h s2 e_s2
      replace hW : Wd G D tc b0 s2 H := by rw [e_s2]; exact hW
      refine lv_iconst (v := (0 : Int32)) hx hb dX12_ask_139 (by decide) ?_
      refine x_istore C hl dX12_ask_140 (by decide) rfl (fun ls hl => ?_)
      exact t_X12_ask_142 C hr hS hW (hl.keep [true, false, false, false, true] rfl) h
    · replace h := h.2 hc
      refine x_aload_n C hl dX12_ask_68 rfl ?_
      refine x_get C hW (t := 12) (k := 27) t1 kl_12 (by decide) fl_X12_77 (v := rv b0 (mR σ l0 27)) rfl dX12_ask_69 ?_
      refine x_iload C hl dX12_ask_72 rfl ?_
      have t3 := h.1
      replace h := h.2
      have v4 := h.1
      replace h := h.2
      refine x_iald C hW t3 v4 dX12_ask_74 ?_
      refine x_aload_n C hl dX12_ask_75 rfl ?_
      refine x_aload_n C hl dX12_ask_76 rfl ?_
      refine x_get C hW (t := 12) (k := 89) t1 kl_12 (by decide) fl_X12_526 (v := .int (mI σ l0 89)) rfl dX12_ask_77 ?_
      refine y_i (x_run (As := [.int (mI σ l0 89)]) C hW hS (T_X12_rootOf l l0 (mI σ l0 89) σ _ h) t1 kl_12 (CW.of yv_X12_rootOf ml_X12_353) ⟨rfl, rfl, ⟨by decide, by decide⟩, by decide, by decide⟩ rfl hl.1 rfl (by simp [rv_cat, cat_i, cat_l]) dX12_ask_80) hS (fun w6 s5 H locs h hW hS => ?_)
      refine lv_icmp_ne hx hb dX12_ask_83 (tgt := 125) rfl (fun hc => ?_) (fun hc => ?_)
      · replace h := h.2 hc
        exact t_X12_ask_125 C hr hK59 hS hW (hl.keep [true, false, false, false, true] rfl) h
      · replace h := h.1 hc
        refine x_aload_n C hl dX12_ask_86 rfl ?_
        refine lv_iconst (v := (0 : Int32)) hx hb dX12_ask_87 (by decide) ?_
        refine x_aload_n C hl dX12_ask_88 rfl ?_
        refine x_get C hW (t := 12) (k := 29) t1 kl_12 (by decide) fl_X12_83 (v := rv b0 (mR s5 l0 29)) rfl dX12_ask_89 ?_
        refine x_iload C hl dX12_ask_92 rfl ?_
        have t7 := h.1
        replace h := h.2
        have v8 := h.1
        replace h := h.2
        refine x_iald C hW t7 v8 dX12_ask_94 ?_
        refine x_aload_n C hl dX12_ask_95 rfl ?_
        refine x_get C hW (t := 12) (k := 89) t1 kl_12 (by decide) fl_X12_526 (v := .int (mI s5 l0 89)) rfl dX12_ask_96 ?_
        refine y_i (x_run (As := [.int (0 : Int32), .int (mI s5 (mR s5 l0 29) l4.toNatClampNeg), .int (mI s5 l0 89)]) C hW hS (T_X12_isA l l0 (0 : Int32) (mI s5 (mR s5 l0 29) l4.toNatClampNeg) (mI s5 l0 89) s5 _ h) t1 kl_12 (CW.of yv_X12_isA ml_X12_315) ⟨rfl, rfl, ⟨by decide, by decide⟩, by decide, by decide⟩ rfl hl.1 rfl (by decide) dX12_ask_99) hS (fun w10 s9 H locs h hW hS => ?_)
        refine lv_if_eq hx hb dX12_ask_102 (tgt := 125) rfl (fun hc => ?_) (fun hc => ?_)
        · replace h := h.1 hc
          exact t_X12_ask_125 C hr hK59 hS hW (hl.keep [true, false, false, false, true] rfl) h
        · replace h := h.2 hc
          refine x_aload_n C hl dX12_ask_105 rfl ?_
          refine x_iload C hl dX12_ask_106 rfl ?_
          refine y_i (x_run (As := [.int l4]) C hW hS (T_X12_isTold l l0 l4 s9 _ h) t1 kl_12 (CW.of yv_X12_isTold ml_X12_541) ⟨rfl, rfl, ⟨by decide, by decide⟩, by decide, by decide⟩ rfl hl.1 rfl (by decide) dX12_ask_108) hS (fun w12 s11 H locs h hW hS => ?_)
          refine lv_if_eq hx hb dX12_ask_111 (tgt := 125) rfl (fun hc => ?_) (fun hc => ?_)
          · replace h := h.1 hc
            exact t_X12_ask_125 C hr hK59 hS hW (hl.keep [true, false, false, false, true] rfl) h
          · replace h := h.2 hc
            refine x_aload_n C hl dX12_ask_114 rfl ?_
            refine x_aload_n C hl dX12_ask_115 rfl ?_
            refine x_get C hW (t := 12) (k := 28) t1 kl_12 (by decide) fl_X12_80 (v := rv b0 (mR s11 l0 28)) rfl dX12_ask_116 ?_
            refine x_iload C hl dX12_ask_119 rfl ?_
            have t13 := h.1
            replace h := h.2
            have v14 := h.1
            replace h := h.2
            refine x_iald C hW t13 v14 dX12_ask_121 ?_
            refine y_v (x_run (As := [.int (mI s11 (mR s11 l0 28) l4.toNatClampNeg)]) C hW hS (T_X12_addKey l l0 (mI s11 (mR s11 l0 28) l4.toNatClampNeg) s11 _ h) t1 kl_12 (CW.of yv_X12_addKey ml_X12_424) ⟨rfl, rfl, ⟨by decide, by decide⟩, by decide, by decide⟩ rfl hl.1 rfl (by decide) dX12_ask_122) hS (fun s15 H locs h hW hS => ?_)
            exact t_X12_ask_125 C hr hK59 hS hW (hl.keep [true, false, false, false, true] rfl) h
set_option maxRecDepth 20000 in
set_option maxHeartbeats 4000000 in
theorem t_X12_ask_59 {p : Program} {l : Launch} {e : Env} {s : State} {m : MethodId} {args : Array Value} {below : List Frame} {meth : Method} {c : Code} {H : Heap} {locs : List Loc} {D : va_G} {tc : Nat → ClassId} {b0 : Nat} {ls : Array Slot} {G : Lay} {Qx : Int32 → Mem → Prop} {l0 : Nat} {l4 : Int32}  {σ : Mem} (C : Cx p s m args meth c cX12_ask RX12 5 D tc b0) (hr : meth.sig.returnType = (some FieldType.int)) (hS : va_S (AA b0) s.heap H locs) (hW : Wd G D tc b0 σ H) (hl : hL b0 ls 5 [some (.inr (.inr l0)), none, none, none, some (.inl l4)]) (h : X_X12_ask_59 G Qx l0 l4 σ) : W p l e rm_X12_ask s m args below meth c H locs 0 0 (MQ below (va_Qi Qx (fun u t => Pw G D tc b0 u t) (AA b0)) args s 0 0 (AA b0)) (F0 m 59 ls []) := by
  obtain ⟨n, h⟩ := h
  exact t_X12_ask_59_n C hr n l4 σ H locs ls hS hW hl h
set_option maxRecDepth 20000 in
set_option maxHeartbeats 4000000 in
theorem t_X12_ask_0 {p : Program} {l : Launch} {e : Env} {s : State} {m : MethodId} {args : Array Value} {below : List Frame} {meth : Method} {c : Code} {H : Heap} {locs : List Loc} {D : va_G} {tc : Nat → ClassId} {b0 : Nat} {ls : Array Slot} {G : Lay} {Qx : Int32 → Mem → Prop} {l0 : Nat} {l1 : Int32}  {σ : Mem} (C : Cx p s m args meth c cX12_ask RX12 5 D tc b0) (hr : meth.sig.returnType = (some FieldType.int)) (hS : va_S (AA b0) s.heap H locs) (hW : Wd G D tc b0 σ H) (hl : hL b0 ls 5 [some (.inr (.inr l0)), some (.inl l1), none, none, none]) (h : X_X12_ask_0 G Qx l0 l1  σ) : W p l e rm_X12_ask s m args below meth c H locs 0 0 (MQ below (va_Qi Qx (fun u t => Pw G D tc b0 u t) (AA b0)) args s 0 0 (AA b0)) (F0 m 0 ls []) := by
  have hx := C.1
  have hb := C.2.1
  unfold X_X12_ask_0 at h
  refine x_aload_n C hl dX12_ask_0 rfl ?_
  refine x_iload_n C hl dX12_ask_1 rfl ?_
  have t1 := h.1
  replace h := h.2
  refine y_i (x_run (As := [.int l1]) C hW hS (T_X12_isUnit l l0 l1 σ _ h) t1 kl_12 (CW.of yv_X12_isUnit ml_X12_380) ⟨rfl, rfl, ⟨by decide, by decide⟩, by decide, by decide⟩ rfl hl.1 rfl (by decide) dX12_ask_2) hS (fun w3 s2 H locs h hW hS => ?_)
  refine lv_if_ne hx hb dX12_ask_5 (tgt := 10) rfl (fun hc => ?_) (fun hc => ?_)
  · replace h := h.2 hc
    refine x_aload_n C hl dX12_ask_10 rfl ?_
    refine lv_iconst (v := (0 : Int32)) hx hb dX12_ask_11 (by decide) ?_
    refine x_putI C hW hS (t := 12) (k := 54) t1 kl_12 (by decide) fl_X12_258 rfl rfl rfl rfl dX12_ask_12 (fun H locs hW hS => ?_)
    obtain ⟨s4, e_s4⟩ : ∃ z : Mem, z = (sI s2 l0 54 (0 : Int32)) := ⟨_, rfl⟩
    replace h := h s4 e_s4
    replace hW : Wd G D tc b0 s4 H := by rw [e_s4]; exact hW
    refine x_aload_n C hl dX12_ask_15 rfl ?_
    refine lv_iconst (v := (-1 : Int32)) hx hb dX12_ask_16 (by decide) ?_
    refine x_putI C hW hS (t := 12) (k := 55) t1 kl_12 (by decide) fl_X12_141 rfl rfl rfl rfl dX12_ask_17 (fun H locs hW hS => ?_)
    obtain ⟨s5, e_s5⟩ : ∃ z : Mem, z = (sI s4 l0 55 (-1 : Int32)) := ⟨_, rfl⟩
    replace h := h s5 e_s5
    replace hW : Wd G D tc b0 s5 H := by rw [e_s5]; exact hW
    refine x_aload_n C hl dX12_ask_20 rfl ?_
    refine y_i (x_run (As := []) C hW hS (T_X12_readQuestion l l0 s5 _ h) t1 kl_12 (CW.of yv_X12_readQuestion ml_X12_538) ⟨rfl, rfl, ⟨by decide, by decide⟩, by decide, by decide⟩ rfl hl.1 rfl (by decide) dX12_ask_21) hS (fun w7 s6 H locs h hW hS => ?_)
    refine x_istore_n C hl dX12_ask_24 (by decide) rfl (fun ls hl => ?_)
    refine x_aload_n C hl dX12_ask_25 rfl ?_
    refine lv_iconst (v := (0 : Int32)) hx hb dX12_ask_26 (by decide) ?_
    refine x_putI C hW hS (t := 12) (k := 1) t1 kl_12 (by decide) fl_X12_223 rfl rfl rfl rfl dX12_ask_27 (fun H locs hW hS => ?_)
    obtain ⟨s8, e_s8⟩ : ∃ z : Mem, z = (sI s6 l0 1 (0 : Int32)) := ⟨_, rfl⟩
    replace h := h s8 e_s8
    replace hW : Wd G D tc b0 s8 H := by rw [e_s8]; exact hW
    refine x_iload_n C hl dX12_ask_30 rfl ?_
    refine lv_if_ne hx hb dX12_ask_31 (tgt := 36) rfl (fun hc => ?_) (fun hc => ?_)
    · replace h := h.2 hc
      refine x_aload_n C hl dX12_ask_36 rfl ?_
      refine x_iload_n C hl dX12_ask_37 rfl ?_
      refine y_i (x_run (As := [.int l1]) C hW hS (T_X12_writeUnit l l0 l1 s8 _ h) t1 kl_12 (CW.of yv_X12_writeUnit ml_X12_492) ⟨rfl, rfl, ⟨by decide, by decide⟩, by decide, by decide⟩ rfl hl.1 rfl (by decide) dX12_ask_38) hS (fun w10 s9 H locs h hW hS => ?_)
      refine x_istore_n C hl dX12_ask_41 (by decide) rfl (fun ls hl => ?_)
      refine x_iload_n C hl dX12_ask_42 rfl ?_
      refine lv_if_eq hx hb dX12_ask_43 (tgt := 51) rfl (fun hc => ?_) (fun hc => ?_)
      · replace h := h.1 hc
        refine x_aload_n C hl dX12_ask_51 rfl ?_
        refine lv_iconst (v := (0 : Int32)) hx hb dX12_ask_52 (by decide) ?_
        refine x_putI C hW hS (t := 12) (k := 60) t1 kl_12 (by decide) fl_X12_421 rfl rfl rfl rfl dX12_ask_53 (fun H locs hW hS => ?_)
        obtain ⟨s11, e_s11⟩ : ∃ z : Mem, z = (sI s9 l0 60 (0 : Int32)) := ⟨_, rfl⟩
        replace h := h s11 e_s11
        replace hW : Wd G D tc b0 s11 H := by rw [e_s11]; exact hW
        refine lv_iconst (v := (0 : Int32)) hx hb dX12_ask_56 (by decide) ?_
        refine x_istore C hl dX12_ask_57 (by decide) rfl (fun ls hl => ?_)
        exact t_X12_ask_59 C hr hS hW (hl.keep [true, false, false, false, true] rfl) h
      · replace h := h.2 hc
        refine lv_bipush (v := (-10 : Int32)) hx hb dX12_ask_46 (by decide) ?_
        refine x_iload_n C hl dX12_ask_48 rfl ?_
        refine lv_isub hx hb dX12_ask_49 ?_
        exact r_i C hr hW hS h dX12_ask_50
    · replace h := h.1 hc
      refine lv_iconst (v := (-1 : Int32)) hx hb dX12_ask_34 (by decide) ?_
      exact r_i C hr hW hS h dX12_ask_35
  · replace h := h.1 hc
    refine lv_iconst (v := (-1 : Int32)) hx hb dX12_ask_8 (by decide) ?_
    exact r_i C hr hW hS h dX12_ask_9
theorem T_X12_ask (l : Launch) {G : Lay} {D : va_G} {tc : Nat → ClassId} {b0 : Nat} (l0 : Nat) (l1 : Int32) (σ : Mem) (Qx : Int32 → Mem → Prop) (h : X_X12_ask G Qx l0 l1 σ) : MI l yX12_ask cX12_ask 5 ((some FieldType.int)) rm_X12_ask G D tc b0 [rv b0 l0, .int l1] σ Qx :=
  x_entry (y := yX12_ask) [.inr (.inr l0), .inl l1] 3 (by decide) (Nat.le_of_ble_eq_true rfl) (fun p e s m args below meth c ls C hr hW hl => t_X12_ask_0 C hr va_S.rf hW (hl.keep [true, true, false, false, false] rfl) h)
/-! X12_found -/
set_option maxRecDepth 20000 in
set_option maxHeartbeats 4000000 in
theorem t_X12_found_22 {p : Program} {l : Launch} {e : Env} {s : State} {m : MethodId} {args : Array Value} {below : List Frame} {meth : Method} {c : Code} {H : Heap} {locs : List Loc} {D : va_G} {tc : Nat → ClassId} {b0 : Nat} {ls : Array Slot} {G : Lay} {Qx : Int32 → Mem → Prop}  {k0 : Int32} {σ : Mem} (C : Cx p s m args meth c cX12_found RX12 2 D tc b0) (hr : meth.sig.returnType = (some FieldType.int)) (hS : va_S (AA b0) s.heap H locs) (hW : Wd G D tc b0 σ H) (hl : hL b0 ls 2 [none, none]) (h : X_X12_found_22 G Qx  k0 σ) : W p l e rm_X12_found s m args below meth c H locs 0 0 (MQ below (va_Qi Qx (fun u t => Pw G D tc b0 u t) (AA b0)) args s 0 0 (AA b0)) (F0 m 22 ls [.int k0]) := by
  have hx := C.1
  have hb := C.2.1
  unfold X_X12_found_22 at h
  exact r_i C hr hW hS h dX12_found_22
set_option maxRecDepth 20000 in
set_option maxHeartbeats 4000000 in
theorem t_X12_found_12 {p : Program} {l : Launch} {e : Env} {s : State} {m : MethodId} {args : Array Value} {below : List Frame} {meth : Method} {c : Code} {H : Heap} {locs : List Loc} {D : va_G} {tc : Nat → ClassId} {b0 : Nat} {ls : Array Slot} {G : Lay} {Qx : Int32 → Mem → Prop}   {σ : Mem} (C : Cx p s m args meth c cX12_found RX12 2 D tc b0) (hr : meth.sig.returnType = (some FieldType.int)) (hS : va_S (AA b0) s.heap H locs) (hW : Wd G D tc b0 σ H) (hl : hL b0 ls 2 [none, none]) (h : X_X12_found_12 G Qx   σ) : W p l e rm_X12_found s m args below meth c H locs 0 0 (MQ below (va_Qi Qx (fun u t => Pw G D tc b0 u t) (AA b0)) args s 0 0 (AA b0)) (F0 m 12 ls []) := by
  have hx := C.1
  have hb := C.2.1
  unfold X_X12_found_12 at h
  refine lv_iconst (v := (-1 : Int32)) hx hb dX12_found_12 (by decide) ?_
  refine lv_goto hx hb dX12_found_13 (tgt := 22) rfl ?_
  exact t_X12_found_22 C hr hS hW (hl.keep [false, false] rfl) h
set_option maxRecDepth 20000 in
set_option maxHeartbeats 4000000 in
theorem t_X12_found_0 {p : Program} {l : Launch} {e : Env} {s : State} {m : MethodId} {args : Array Value} {below : List Frame} {meth : Method} {c : Code} {H : Heap} {locs : List Loc} {D : va_G} {tc : Nat → ClassId} {b0 : Nat} {ls : Array Slot} {G : Lay} {Qx : Int32 → Mem → Prop} {l0 : Nat} {l1 : Int32}  {σ : Mem} (C : Cx p s m args meth c cX12_found RX12 2 D tc b0) (hr : meth.sig.returnType = (some FieldType.int)) (hS : va_S (AA b0) s.heap H locs) (hW : Wd G D tc b0 σ H) (hl : hL b0 ls 2 [some (.inr (.inr l0)), some (.inl l1)]) (h : X_X12_found_0 G Qx l0 l1  σ) : W p l e rm_X12_found s m args below meth c H locs 0 0 (MQ below (va_Qi Qx (fun u t => Pw G D tc b0 u t) (AA b0)) args s 0 0 (AA b0)) (F0 m 0 ls []) := by
  have hx := C.1
  have hb := C.2.1
  unfold X_X12_found_0 at h
  refine x_iload_n C hl dX12_found_0 rfl ?_
  refine lv_if_lt hx hb dX12_found_1 (tgt := 12) rfl (fun hc => ?_) (fun hc => ?_)
  · replace h := h.1 hc
    exact t_X12_found_12 C hr hS hW (hl.keep [false, false] rfl) h
  · replace h := h.2 hc
    refine x_iload_n C hl dX12_found_4 rfl ?_
    refine x_aload_n C hl dX12_found_5 rfl ?_
    have t1 := h.1
    replace h := h.2
    refine x_get C hW (t := 12) (k := 90) t1 kl_12 (by decide) fl_X12_347 (v := .int (mI σ l0 90)) rfl dX12_found_6 ?_
    refine lv_icmp_lt hx hb dX12_found_9 (tgt := 16) rfl (fun hc => ?_) (fun hc => ?_)
    · replace h := h.1 hc
      refine x_aload_n C hl dX12_found_16 rfl ?_
      refine x_get C hW (t := 12) (k := 91) t1 kl_12 (by decide) fl_X12_214 (v := rv b0 (mR σ l0 91)) rfl dX12_found_17 ?_
      refine x_iload_n C hl dX12_found_20 rfl ?_
      have t2 := h.1
      replace h := h.2
      have v3 := h.1
      replace h := h.2
      refine x_iald C hW t2 v3 dX12_found_21 ?_
      exact t_X12_found_22 C hr hS hW (hl.keep [false, false] rfl) h
    · replace h := h.2 hc
      exact t_X12_found_12 C hr hS hW (hl.keep [false, false] rfl) h
theorem T_X12_found (l : Launch) {G : Lay} {D : va_G} {tc : Nat → ClassId} {b0 : Nat} (l0 : Nat) (l1 : Int32) (σ : Mem) (Qx : Int32 → Mem → Prop) (h : X_X12_found G Qx l0 l1 σ) : MI l yX12_found cX12_found 2 ((some FieldType.int)) rm_X12_found G D tc b0 [rv b0 l0, .int l1] σ Qx :=
  x_entry (y := yX12_found) [.inr (.inr l0), .inl l1] 0 (by decide) (Nat.le_of_ble_eq_true rfl) (fun p e s m args below meth c ls C hr hW hl => t_X12_found_0 C hr va_S.rf hW (hl.keep [true, true] rfl) h)
