/-! X12_rootOf -/
set_option maxRecDepth 20000 in
set_option maxHeartbeats 4000000 in
theorem t_X12_rootOf_2_n {p : Program} {l : Launch} {e : Env} {s : State} {m : MethodId} {args : Array Value} {below : List Frame} {meth : Method} {c : Code} {D : va_G} {tc : Nat → ClassId} {b0 : Nat} {G : Lay} {Qx : Int32 → Mem → Prop} {l0 : Nat} (C : Cx p s m args meth c cX12_rootOf RX12 3 D tc b0) (hr : meth.sig.returnType = (some FieldType.int)) (n : Nat) : ∀ (l2 : Int32) (σ : Mem) (H : Heap) (locs : List Loc) (ls : Array Slot), va_S (AA b0) s.heap H locs → Wd G D tc b0 σ H → hL b0 ls 3 [some (.inr (.inr l0)), none, some (.inl l2)] → Lp (X_X12_rootOf_2_s G Qx l0) n (l2, σ) → W p l e rm_X12_rootOf s m args below meth c H locs 0 0 (MQ below (va_Qi Qx (fun u t => Pw G D tc b0 u t) (AA b0)) args s 0 0 (AA b0)) (F0 m 2 ls []) := by
  have hx := C.1
  have hb := C.2.1
  induction n with
  | zero => intro l2 σ H locs ls hS hW hl h; exact False.elim h
  | succ n hK2 =>
    intro l2 σ H locs ls hS hW hl h
    replace h : X_X12_rootOf_2_s G Qx l0 (Lp (X_X12_rootOf_2_s G Qx l0) n) (l2, σ) := h
    unfold X_X12_rootOf_2_s at h
    refine x_aload_n C hl dX12_rootOf_2 rfl ?_
    have t1 := h.1
    replace h := h.2
    refine x_get C hW (t := 12) (k := 4) t1 kl_12 (by decide) fl_X12_17 (v := rv b0 (mR σ l0 4)) rfl dX12_rootOf_3 ?_
    refine x_iload_n C hl dX12_rootOf_6 rfl ?_
    have t2 := h.1
    replace h := h.2
    have v3 := h.1
    replace h := h.2
    refine x_iald C hW t2 v3 dX12_rootOf_7 ?_
    refine lv_if_lt hx hb dX12_rootOf_8 (tgt := 21) rfl (fun hc => ?_) (fun hc => ?_)
    · replace h := h.1 hc
      refine x_iload_n C hl dX12_rootOf_21 rfl ?_
      exact r_i C hr hW hS h dX12_rootOf_22
    · replace h := h.2 hc
      refine x_aload_n C hl dX12_rootOf_11 rfl ?_
      refine x_get C hW (t := 12) (k := 4) t1 kl_12 (by decide) fl_X12_17 (v := rv b0 (mR σ l0 4)) rfl dX12_rootOf_12 ?_
      refine x_iload_n C hl dX12_rootOf_15 rfl ?_
      refine x_iald C hW t2 v3 dX12_rootOf_16 ?_
      refine x_istore_n C hl dX12_rootOf_17 (by decide) rfl (fun ls hl => ?_)
      refine lv_goto hx hb dX12_rootOf_18 (tgt := 2) rfl ?_
      exact hK2 _ _ _ _ _ hS hW (hl.keep [true, false, true] rfl) h
set_option maxRecDepth 20000 in
set_option maxHeartbeats 4000000 in
theorem t_X12_rootOf_2 {p : Program} {l : Launch} {e : Env} {s : State} {m : MethodId} {args : Array Value} {below : List Frame} {meth : Method} {c : Code} {H : Heap} {locs : List Loc} {D : va_G} {tc : Nat → ClassId} {b0 : Nat} {ls : Array Slot} {G : Lay} {Qx : Int32 → Mem → Prop} {l0 : Nat} {l2 : Int32}  {σ : Mem} (C : Cx p s m args meth c cX12_rootOf RX12 3 D tc b0) (hr : meth.sig.returnType = (some FieldType.int)) (hS : va_S (AA b0) s.heap H locs) (hW : Wd G D tc b0 σ H) (hl : hL b0 ls 3 [some (.inr (.inr l0)), none, some (.inl l2)]) (h : X_X12_rootOf_2 G Qx l0 l2 σ) : W p l e rm_X12_rootOf s m args below meth c H locs 0 0 (MQ below (va_Qi Qx (fun u t => Pw G D tc b0 u t) (AA b0)) args s 0 0 (AA b0)) (F0 m 2 ls []) := by
  obtain ⟨n, h⟩ := h
  exact t_X12_rootOf_2_n C hr n l2 σ H locs ls hS hW hl h
set_option maxRecDepth 20000 in
set_option maxHeartbeats 4000000 in
theorem t_X12_rootOf_0 {p : Program} {l : Launch} {e : Env} {s : State} {m : MethodId} {args : Array Value} {below : List Frame} {meth : Method} {c : Code} {H : Heap} {locs : List Loc} {D : va_G} {tc : Nat → ClassId} {b0 : Nat} {ls : Array Slot} {G : Lay} {Qx : Int32 → Mem → Prop} {l0 : Nat} {l1 : Int32}  {σ : Mem} (C : Cx p s m args meth c cX12_rootOf RX12 3 D tc b0) (hr : meth.sig.returnType = (some FieldType.int)) (hS : va_S (AA b0) s.heap H locs) (hW : Wd G D tc b0 σ H) (hl : hL b0 ls 3 [some (.inr (.inr l0)), some (.inl l1), none]) (h : X_X12_rootOf_0 G Qx l0 l1  σ) : W p l e rm_X12_rootOf s m args below meth c H locs 0 0 (MQ below (va_Qi Qx (fun u t => Pw G D tc b0 u t) (AA b0)) args s 0 0 (AA b0)) (F0 m 0 ls []) := by
  have hx := C.1
  have hb := C.2.1
  unfold X_X12_rootOf_0 at h
  refine x_iload_n C hl dX12_rootOf_0 rfl ?_
  refine x_istore_n C hl dX12_rootOf_1 (by decide) rfl (fun ls hl => ?_)
  exact t_X12_rootOf_2 C hr hS hW (hl.keep [true, false, true] rfl) h
theorem T_X12_rootOf (l : Launch) {G : Lay} {D : va_G} {tc : Nat → ClassId} {b0 : Nat} (l0 : Nat) (l1 : Int32) (σ : Mem) (Qx : Int32 → Mem → Prop) (h : X_X12_rootOf G Qx l0 l1 σ) : MI l yX12_rootOf cX12_rootOf 3 ((some FieldType.int)) rm_X12_rootOf G D tc b0 [rv b0 l0, .int l1] σ Qx :=
  x_entry (y := yX12_rootOf) [.inr (.inr l0), .inl l1] 1 (by decide) (Nat.le_of_ble_eq_true rfl) (fun p e s m args below meth c ls C hr hW hl => t_X12_rootOf_0 C hr va_S.rf hW (hl.keep [true, true, false] rfl) h)
/-! X12_look -/
set_option maxRecDepth 20000 in
set_option maxHeartbeats 4000000 in
theorem t_X12_look_0 {p : Program} {l : Launch} {e : Env} {s : State} {m : MethodId} {args : Array Value} {below : List Frame} {meth : Method} {c : Code} {H : Heap} {locs : List Loc} {D : va_G} {tc : Nat → ClassId} {b0 : Nat} {ls : Array Slot} {G : Lay} {Qx : Int32 → Mem → Prop} {l0 : Nat} {l1 : Int32} {l2 : Int32}  {σ : Mem} (C : Cx p s m args meth c cX12_look RX12 3 D tc b0) (hr : meth.sig.returnType = (some FieldType.int)) (hS : va_S (AA b0) s.heap H locs) (hW : Wd G D tc b0 σ H) (hl : hL b0 ls 3 [some (.inr (.inr l0)), some (.inl l1), some (.inl l2)]) (h : X_X12_look_0 G Qx l0 l1 l2  σ) : W p l e rm_X12_look s m args below meth c H locs 0 0 (MQ below (va_Qi Qx (fun u t => Pw G D tc b0 u t) (AA b0)) args s 0 0 (AA b0)) (F0 m 0 ls []) := by
  have hx := C.1
  have hb := C.2.1
  unfold X_X12_look_0 at h
  refine x_aload_n C hl dX12_look_0 rfl ?_
  refine x_iload_n C hl dX12_look_1 rfl ?_
  have t1 := h.1
  replace h := h.2
  refine y_i (x_run (As := [.int l1]) C hW hS (T_X12_isClass l l0 l1 σ _ h) t1 kl_12 (CW.of yv_X12_isClass ml_X12_350) ⟨rfl, rfl, ⟨by decide, by decide⟩, by decide, by decide⟩ rfl hl.1 rfl (by decide) dX12_look_2) hS (fun w3 s2 H locs h hW hS => ?_)
  refine lv_if_ne hx hb dX12_look_5 (tgt := 10) rfl (fun hc => ?_) (fun hc => ?_)
  · replace h := h.2 hc
    refine x_iload_n C hl dX12_look_10 rfl ?_
    by_cases hc0 : l2 = 0
    · replace h := h.1 hc0
      rw [hc0]
      refine lv_tableIn hx hb dX12_look_11 (by decide) (by decide) (off := 29) rfl (tgt := 40) rfl ?_
      refine x_aload_n C hl dX12_look_40 rfl ?_
      refine x_get C hW (t := 12) (k := 4) t1 kl_12 (by decide) fl_X12_17 (v := rv b0 (mR s2 l0 4)) rfl dX12_look_41 ?_
      refine x_iload_n C hl dX12_look_44 rfl ?_
      have t4 := h.1
      replace h := h.2
      have v5 := h.1
      replace h := h.2
      refine x_iald C hW t4 v5 dX12_look_45 ?_
      exact r_i C hr hW hS h dX12_look_46
    replace h := h.2
    by_cases hc1 : l2 = 1
    · replace h := h.1 hc1
      rw [hc1]
      refine lv_tableIn hx hb dX12_look_11 (by decide) (by decide) (off := 36) rfl (tgt := 47) rfl ?_
      refine x_aload_n C hl dX12_look_47 rfl ?_
      refine x_iload_n C hl dX12_look_48 rfl ?_
      refine y_i (x_run (As := [.int l1]) C hW hS (T_X12_rootOf l l0 l1 s2 _ h) t1 kl_12 (CW.of yv_X12_rootOf ml_X12_353) ⟨rfl, rfl, ⟨by decide, by decide⟩, by decide, by decide⟩ rfl hl.1 rfl (by decide) dX12_look_49) hS (fun w7 s6 H locs h hW hS => ?_)
      exact r_i C hr hW hS h dX12_look_52
    replace h := h.2
    by_cases hc2 : l2 = 2
    · replace h := h.1 hc2
      rw [hc2]
      refine lv_tableIn hx hb dX12_look_11 (by decide) (by decide) (off := 42) rfl (tgt := 53) rfl ?_
      refine x_aload_n C hl dX12_look_53 rfl ?_
      refine x_get C hW (t := 12) (k := 5) t1 kl_12 (by decide) fl_X12_20 (v := rv b0 (mR s2 l0 5)) rfl dX12_look_54 ?_
      refine x_iload_n C hl dX12_look_57 rfl ?_
      have t8 := h.1
      replace h := h.2
      have v9 := h.1
      replace h := h.2
      refine x_iald C hW t8 v9 dX12_look_58 ?_
      exact r_i C hr hW hS h dX12_look_59
    replace h := h.2
    by_cases hc3 : l2 = 3
    · replace h := h.1 hc3
      rw [hc3]
      refine lv_tableIn hx hb dX12_look_11 (by decide) (by decide) (off := 49) rfl (tgt := 60) rfl ?_
      refine x_aload_n C hl dX12_look_60 rfl ?_
      refine x_get C hW (t := 12) (k := 6) t1 kl_12 (by decide) fl_X12_23 (v := rv b0 (mR s2 l0 6)) rfl dX12_look_61 ?_
      refine x_iload_n C hl dX12_look_64 rfl ?_
      have t10 := h.1
      replace h := h.2
      have v11 := h.1
      replace h := h.2
      refine x_iald C hW t10 v11 dX12_look_65 ?_
      exact r_i C hr hW hS h dX12_look_66
    replace h := h.2
    replace h := h ⟨hc0, hc1, hc2, hc3⟩
    refine lv_tableOut hx hb dX12_look_11 (tb_out4 hc0 hc1 hc2 hc3) (tgt := 67) rfl ?_
    refine lv_iconst (v := (-1 : Int32)) hx hb dX12_look_67 (by decide) ?_
    exact r_i C hr hW hS h dX12_look_68
  · replace h := h.1 hc
    refine lv_iconst (v := (-1 : Int32)) hx hb dX12_look_8 (by decide) ?_
    exact r_i C hr hW hS h dX12_look_9
theorem T_X12_look (l : Launch) {G : Lay} {D : va_G} {tc : Nat → ClassId} {b0 : Nat} (l0 : Nat) (l1 : Int32) (l2 : Int32) (σ : Mem) (Qx : Int32 → Mem → Prop) (h : X_X12_look G Qx l0 l1 l2 σ) : MI l yX12_look cX12_look 3 ((some FieldType.int)) rm_X12_look G D tc b0 [rv b0 l0, .int l1, .int l2] σ Qx :=
  x_entry (y := yX12_look) [.inr (.inr l0), .inl l1, .inl l2] 0 (by decide) (Nat.le_of_ble_eq_true rfl) (fun p e s m args below meth c ls C hr hW hl => t_X12_look_0 C hr va_S.rf hW (hl.keep [true, true, true] rfl) h)
/-! X12_member -/
set_option maxRecDepth 20000 in
set_option maxHeartbeats 4000000 in
theorem t_X12_member_22 {p : Program} {l : Launch} {e : Env} {s : State} {m : MethodId} {args : Array Value} {below : List Frame} {meth : Method} {c : Code} {H : Heap} {locs : List Loc} {D : va_G} {tc : Nat → ClassId} {b0 : Nat} {ls : Array Slot} {G : Lay} {Qx : Int32 → Mem → Prop}   {σ : Mem} (C : Cx p s m args meth c cX12_member RX12 5 D tc b0) (hr : meth.sig.returnType = (some FieldType.int)) (hS : va_S (AA b0) s.heap H locs) (hW : Wd G D tc b0 σ H) (hl : hL b0 ls 5 [none, none, none, none, none]) (h : X_X12_member_22 G Qx   σ) : W p l e rm_X12_member s m args below meth c H locs 0 0 (MQ below (va_Qi Qx (fun u t => Pw G D tc b0 u t) (AA b0)) args s 0 0 (AA b0)) (F0 m 22 ls []) := by
  have hx := C.1
  have hb := C.2.1
  unfold X_X12_member_22 at h
  refine lv_iconst (v := (-1 : Int32)) hx hb dX12_member_22 (by decide) ?_
  exact r_i C hr hW hS h dX12_member_23
set_option maxRecDepth 20000 in
set_option maxHeartbeats 4000000 in
theorem t_X12_member_115 {p : Program} {l : Launch} {e : Env} {s : State} {m : MethodId} {args : Array Value} {below : List Frame} {meth : Method} {c : Code} {H : Heap} {locs : List Loc} {D : va_G} {tc : Nat → ClassId} {b0 : Nat} {ls : Array Slot} {G : Lay} {Qx : Int32 → Mem → Prop}  {k0 : Int32} {σ : Mem} (C : Cx p s m args meth c cX12_member RX12 5 D tc b0) (hr : meth.sig.returnType = (some FieldType.int)) (hS : va_S (AA b0) s.heap H locs) (hW : Wd G D tc b0 σ H) (hl : hL b0 ls 5 [none, none, none, none, none]) (h : X_X12_member_115 G Qx  k0 σ) : W p l e rm_X12_member s m args below meth c H locs 0 0 (MQ below (va_Qi Qx (fun u t => Pw G D tc b0 u t) (AA b0)) args s 0 0 (AA b0)) (F0 m 115 ls [.int k0]) := by
  have hx := C.1
  have hb := C.2.1
  unfold X_X12_member_115 at h
  exact r_i C hr hW hS h dX12_member_115
set_option maxRecDepth 20000 in
set_option maxHeartbeats 4000000 in
theorem t_X12_member_146 {p : Program} {l : Launch} {e : Env} {s : State} {m : MethodId} {args : Array Value} {below : List Frame} {meth : Method} {c : Code} {H : Heap} {locs : List Loc} {D : va_G} {tc : Nat → ClassId} {b0 : Nat} {ls : Array Slot} {G : Lay} {Qx : Int32 → Mem → Prop}  {k0 : Int32} {σ : Mem} (C : Cx p s m args meth c cX12_member RX12 5 D tc b0) (hr : meth.sig.returnType = (some FieldType.int)) (hS : va_S (AA b0) s.heap H locs) (hW : Wd G D tc b0 σ H) (hl : hL b0 ls 5 [none, none, none, none, none]) (h : X_X12_member_146 G Qx  k0 σ) : W p l e rm_X12_member s m args below meth c H locs 0 0 (MQ below (va_Qi Qx (fun u t => Pw G D tc b0 u t) (AA b0)) args s 0 0 (AA b0)) (F0 m 146 ls [.int k0]) := by
  have hx := C.1
  have hb := C.2.1
  unfold X_X12_member_146 at h
  exact r_i C hr hW hS h dX12_member_146
set_option maxRecDepth 20000 in
set_option maxHeartbeats 4000000 in
theorem t_X12_member_0 {p : Program} {l : Launch} {e : Env} {s : State} {m : MethodId} {args : Array Value} {below : List Frame} {meth : Method} {c : Code} {H : Heap} {locs : List Loc} {D : va_G} {tc : Nat → ClassId} {b0 : Nat} {ls : Array Slot} {G : Lay} {Qx : Int32 → Mem → Prop} {l0 : Nat} {l1 : Int32} {l2 : Int32} {l3 : Int32}  {σ : Mem} (C : Cx p s m args meth c cX12_member RX12 5 D tc b0) (hr : meth.sig.returnType = (some FieldType.int)) (hS : va_S (AA b0) s.heap H locs) (hW : Wd G D tc b0 σ H) (hl : hL b0 ls 5 [some (.inr (.inr l0)), some (.inl l1), some (.inl l2), some (.inl l3), none]) (h : X_X12_member_0 G Qx l0 l1 l2 l3  σ) : W p l e rm_X12_member s m args below meth c H locs 0 0 (MQ below (va_Qi Qx (fun u t => Pw G D tc b0 u t) (AA b0)) args s 0 0 (AA b0)) (F0 m 0 ls []) := by
  have hx := C.1
  have hb := C.2.1
  unfold X_X12_member_0 at h
  refine x_aload_n C hl dX12_member_0 rfl ?_
  refine x_iload_n C hl dX12_member_1 rfl ?_
  have t1 := h.1
  replace h := h.2
  refine y_i (x_run (As := [.int l1]) C hW hS (T_X12_isClass l l0 l1 σ _ h) t1 kl_12 (CW.of yv_X12_isClass ml_X12_350) ⟨rfl, rfl, ⟨by decide, by decide⟩, by decide, by decide⟩ rfl hl.1 rfl (by decide) dX12_member_2) hS (fun w3 s2 H locs h hW hS => ?_)
  refine lv_if_eq hx hb dX12_member_5 (tgt := 22) rfl (fun hc => ?_) (fun hc => ?_)
  · replace h := h.1 hc
    exact t_X12_member_22 C hr hS hW (hl.keep [false, false, false, false, false] rfl) h
  · replace h := h.2 hc
    refine x_iload_n C hl dX12_member_8 rfl ?_
    refine lv_if_lt hx hb dX12_member_9 (tgt := 22) rfl (fun hc => ?_) (fun hc => ?_)
    · replace h := h.1 hc
      exact t_X12_member_22 C hr hS hW (hl.keep [false, false, false, false, false] rfl) h
    · replace h := h.2 hc
      refine x_iload_n C hl dX12_member_12 rfl ?_
      refine x_aload_n C hl dX12_member_13 rfl ?_
      refine x_get C hW (t := 12) (k := 6) t1 kl_12 (by decide) fl_X12_23 (v := rv b0 (mR s2 l0 6)) rfl dX12_member_14 ?_
      refine x_iload_n C hl dX12_member_17 rfl ?_
      have t4 := h.1
      replace h := h.2
      have v5 := h.1
      replace h := h.2
      refine x_iald C hW t4 v5 dX12_member_18 ?_
      refine lv_icmp_lt hx hb dX12_member_19 (tgt := 24) rfl (fun hc => ?_) (fun hc => ?_)
      · replace h := h.1 hc
        refine lv_bipush (v := (16 : Int32)) hx hb dX12_member_24 (by decide) ?_
        refine x_iload_n C hl dX12_member_26 rfl ?_
        refine lv_imul hx hb dX12_member_27 ?_
        refine x_iload_n C hl dX12_member_28 rfl ?_
        refine lv_iadd hx hb dX12_member_29 ?_
        refine x_istore C hl dX12_member_30 (by decide) rfl (fun ls hl => ?_)
        refine x_iload_n C hl dX12_member_32 rfl ?_
        by_cases hc0 : l3 = 0
        · replace h := h.1 hc0
          rw [hc0]
          refine lv_tableIn hx hb dX12_member_33 (by decide) (by decide) (off := 31) rfl (tgt := 64) rfl ?_
          refine x_aload_n C hl dX12_member_64 rfl ?_
          refine x_get C hW (t := 12) (k := 9) t1 kl_12 (by decide) fl_X12_32 (v := rv b0 (mR s2 l0 9)) rfl dX12_member_65 ?_
          refine x_iload C hl dX12_member_68 rfl ?_
          have t6 := h.1
          replace h := h.2
          have v7 := h.1
          replace h := h.2
          refine x_iald C hW t6 v7 dX12_member_70 ?_
          exact r_i C hr hW hS h dX12_member_71
        replace h := h.2
        by_cases hc1 : l3 = 1
        · replace h := h.1 hc1
          rw [hc1]
          refine lv_tableIn hx hb dX12_member_33 (by decide) (by decide) (off := 39) rfl (tgt := 72) rfl ?_
          refine x_aload_n C hl dX12_member_72 rfl ?_
          refine x_get C hW (t := 12) (k := 9) t1 kl_12 (by decide) fl_X12_32 (v := rv b0 (mR s2 l0 9)) rfl dX12_member_73 ?_
          refine x_iload C hl dX12_member_76 rfl ?_
          have t8 := h.1
          replace h := h.2
          have v9 := h.1
          replace h := h.2
          refine x_iald C hW t8 v9 dX12_member_78 ?_
          refine lv_iconst (v := (4 : Int32)) hx hb dX12_member_79 (by decide) ?_
          refine lv_icmp_lt hx hb dX12_member_80 (tgt := 93) rfl (fun hc => ?_) (fun hc => ?_)
          · replace h := h.1 hc
            refine x_aload_n C hl dX12_member_93 rfl ?_
            refine x_get C hW (t := 12) (k := 9) t1 kl_12 (by decide) fl_X12_32 (v := rv b0 (mR s2 l0 9)) rfl dX12_member_94 ?_
            refine x_iload C hl dX12_member_97 rfl ?_
            refine x_iald C hW t8 v9 dX12_member_99 ?_
            refine lv_iconst (v := (3 : Int32)) hx hb dX12_member_100 (by decide) ?_
            refine lv_icmp_ne hx hb dX12_member_101 (tgt := 114) rfl (fun hc => ?_) (fun hc => ?_)
            · replace h := h.2 hc
              refine lv_iconst (v := (0 : Int32)) hx hb dX12_member_114 (by decide) ?_
              exact t_X12_member_115 C hr hS hW (hl.keep [false, false, false, false, false] rfl) h
            · replace h := h.1 hc
              refine x_aload_n C hl dX12_member_104 rfl ?_
              refine x_get C hW (t := 12) (k := 12) t1 kl_12 (by decide) fl_X12_41 (v := rv b0 (mR s2 l0 12)) rfl dX12_member_105 ?_
              refine x_iload C hl dX12_member_108 rfl ?_
              have t10 := h.1
              replace h := h.2
              have v11 := h.1
              replace h := h.2
              refine x_iald C hW t10 v11 dX12_member_110 ?_
              refine lv_goto hx hb dX12_member_111 (tgt := 115) rfl ?_
              exact t_X12_member_115 C hr hS hW (hl.keep [false, false, false, false, false] rfl) h
          · replace h := h.2 hc
            refine x_aload_n C hl dX12_member_83 rfl ?_
            refine x_get C hW (t := 12) (k := 10) t1 kl_12 (by decide) fl_X12_35 (v := rv b0 (mR s2 l0 10)) rfl dX12_member_84 ?_
            refine x_iload C hl dX12_member_87 rfl ?_
            have t12 := h.1
            replace h := h.2
            have v13 := h.1
            replace h := h.2
            refine x_iald C hW t12 v13 dX12_member_89 ?_
            refine lv_goto hx hb dX12_member_90 (tgt := 115) rfl ?_
            exact t_X12_member_115 C hr hS hW (hl.keep [false, false, false, false, false] rfl) h
        replace h := h.2
        by_cases hc2 : l3 = 2
        · replace h := h.1 hc2
          rw [hc2]
          refine lv_tableIn hx hb dX12_member_33 (by decide) (by decide) (off := 83) rfl (tgt := 116) rfl ?_
          refine x_aload_n C hl dX12_member_116 rfl ?_
          refine x_get C hW (t := 12) (k := 13) t1 kl_12 (by decide) fl_X12_44 (v := rv b0 (mR s2 l0 13)) rfl dX12_member_117 ?_
          refine x_iload C hl dX12_member_120 rfl ?_
          have t14 := h.1
          replace h := h.2
          have v15 := h.1
          replace h := h.2
          refine x_iald C hW t14 v15 dX12_member_122 ?_
          exact r_i C hr hW hS h dX12_member_123
        replace h := h.2
        by_cases hc3 : l3 = 3
        · replace h := h.1 hc3
          rw [hc3]
          refine lv_tableIn hx hb dX12_member_33 (by decide) (by decide) (off := 91) rfl (tgt := 124) rfl ?_
          refine x_aload_n C hl dX12_member_124 rfl ?_
          refine x_get C hW (t := 12) (k := 9) t1 kl_12 (by decide) fl_X12_32 (v := rv b0 (mR s2 l0 9)) rfl dX12_member_125 ?_
          refine x_iload C hl dX12_member_128 rfl ?_
          have t16 := h.1
          replace h := h.2
          have v17 := h.1
          replace h := h.2
          refine x_iald C hW t16 v17 dX12_member_130 ?_
          refine lv_iconst (v := (5 : Int32)) hx hb dX12_member_131 (by decide) ?_
          refine lv_icmp_ne hx hb dX12_member_132 (tgt := 145) rfl (fun hc => ?_) (fun hc => ?_)
          · replace h := h.2 hc
            refine lv_iconst (v := (-1 : Int32)) hx hb dX12_member_145 (by decide) ?_
            exact t_X12_member_146 C hr hS hW (hl.keep [false, false, false, false, false] rfl) h
          · replace h := h.1 hc
            refine x_aload_n C hl dX12_member_135 rfl ?_
            refine x_get C hW (t := 12) (k := 14) t1 kl_12 (by decide) fl_X12_47 (v := rv b0 (mR s2 l0 14)) rfl dX12_member_136 ?_
            refine x_iload C hl dX12_member_139 rfl ?_
            have t18 := h.1
            replace h := h.2
            have v19 := h.1
            replace h := h.2
            refine x_iald C hW t18 v19 dX12_member_141 ?_
            refine lv_goto hx hb dX12_member_142 (tgt := 146) rfl ?_
            exact t_X12_member_146 C hr hS hW (hl.keep [false, false, false, false, false] rfl) h
        replace h := h.2
        replace h := h ⟨hc0, hc1, hc2, hc3⟩
        refine lv_tableOut hx hb dX12_member_33 (tb_out4 hc0 hc1 hc2 hc3) (tgt := 147) rfl ?_
        refine lv_iconst (v := (-1 : Int32)) hx hb dX12_member_147 (by decide) ?_
        exact r_i C hr hW hS h dX12_member_148
      · replace h := h.2 hc
        exact t_X12_member_22 C hr hS hW (hl.keep [false, false, false, false, false] rfl) h
theorem T_X12_member (l : Launch) {G : Lay} {D : va_G} {tc : Nat → ClassId} {b0 : Nat} (l0 : Nat) (l1 : Int32) (l2 : Int32) (l3 : Int32) (σ : Mem) (Qx : Int32 → Mem → Prop) (h : X_X12_member G Qx l0 l1 l2 l3 σ) : MI l yX12_member cX12_member 5 ((some FieldType.int)) rm_X12_member G D tc b0 [rv b0 l0, .int l1, .int l2, .int l3] σ Qx :=
  x_entry (y := yX12_member) [.inr (.inr l0), .inl l1, .inl l2, .inl l3] 1 (by decide) (Nat.le_of_ble_eq_true rfl) (fun p e s m args below meth c ls C hr hW hl => t_X12_member_0 C hr va_S.rf hW (hl.keep [true, true, true, true, false] rfl) h)
/-! X12_rowOf -/
set_option maxRecDepth 20000 in
set_option maxHeartbeats 4000000 in
theorem t_X12_rowOf_32 {p : Program} {l : Launch} {e : Env} {s : State} {m : MethodId} {args : Array Value} {below : List Frame} {meth : Method} {c : Code} {H : Heap} {locs : List Loc} {D : va_G} {tc : Nat → ClassId} {b0 : Nat} {ls : Array Slot} {G : Lay} {Qx : Int32 → Mem → Prop} {l0 : Nat} {l1 : Int32} {l2 : Int32} {l3 : Int32}  {K2 : Int32 × Mem → Prop} {σ : Mem} (C : Cx p s m args meth c cX12_rowOf RX12 4 D tc b0) (hr : meth.sig.returnType = (some FieldType.int)) (hK2 : ∀ (x3 : Int32) (σ : Mem) (H : Heap) (locs : List Loc) (ls : Array Slot), va_S (AA b0) s.heap H locs → Wd G D tc b0 σ H → hL b0 ls 4 [some (.inr (.inr l0)), some (.inl l1), some (.inl l2), some (.inl x3)] → K2 (x3, σ) → W p l e rm_X12_rowOf s m args below meth c H locs 0 0 (MQ below (va_Qi Qx (fun u t => Pw G D tc b0 u t) (AA b0)) args s 0 0 (AA b0)) (F0 m 2 ls [])) (hS : va_S (AA b0) s.heap H locs) (hW : Wd G D tc b0 σ H) (hl : hL b0 ls 4 [some (.inr (.inr l0)), some (.inl l1), some (.inl l2), some (.inl l3)]) (h : X_X12_rowOf_32 G Qx K2 l0 l1 l2 l3  σ) : W p l e rm_X12_rowOf s m args below meth c H locs 0 0 (MQ below (va_Qi Qx (fun u t => Pw G D tc b0 u t) (AA b0)) args s 0 0 (AA b0)) (F0 m 32 ls []) := by
  have hx := C.1
  have hb := C.2.1
  unfold X_X12_rowOf_32 at h
  refine x_iinc C hl dX12_rowOf_32 rfl (v := (1 : Int32)) (by decide) (by decide) rfl (fun ls hl => ?_)
  refine lv_goto hx hb dX12_rowOf_35 (tgt := 2) rfl ?_
  exact hK2 _ _ _ _ _ hS hW (hl.keep [true, true, true, true] rfl) h
set_option maxRecDepth 20000 in
set_option maxHeartbeats 4000000 in
theorem t_X12_rowOf_2_n {p : Program} {l : Launch} {e : Env} {s : State} {m : MethodId} {args : Array Value} {below : List Frame} {meth : Method} {c : Code} {D : va_G} {tc : Nat → ClassId} {b0 : Nat} {G : Lay} {Qx : Int32 → Mem → Prop} {l0 : Nat} {l1 : Int32} {l2 : Int32} (C : Cx p s m args meth c cX12_rowOf RX12 4 D tc b0) (hr : meth.sig.returnType = (some FieldType.int)) (n : Nat) : ∀ (l3 : Int32) (σ : Mem) (H : Heap) (locs : List Loc) (ls : Array Slot), va_S (AA b0) s.heap H locs → Wd G D tc b0 σ H → hL b0 ls 4 [some (.inr (.inr l0)), some (.inl l1), some (.inl l2), some (.inl l3)] → Lp (X_X12_rowOf_2_s G Qx l0 l1 l2) n (l3, σ) → W p l e rm_X12_rowOf s m args below meth c H locs 0 0 (MQ below (va_Qi Qx (fun u t => Pw G D tc b0 u t) (AA b0)) args s 0 0 (AA b0)) (F0 m 2 ls []) := by
  have hx := C.1
  have hb := C.2.1
  induction n with
  | zero => intro l3 σ H locs ls hS hW hl h; exact False.elim h
  | succ n hK2 =>
    intro l3 σ H locs ls hS hW hl h
    replace h : X_X12_rowOf_2_s G Qx l0 l1 l2 (Lp (X_X12_rowOf_2_s G Qx l0 l1 l2) n) (l3, σ) := h
    unfold X_X12_rowOf_2_s at h
    refine x_iload_n C hl dX12_rowOf_2 rfl ?_
    refine x_aload_n C hl dX12_rowOf_3 rfl ?_
    have t1 := h.1
    replace h := h.2
    refine x_get C hW (t := 12) (k := 26) t1 kl_12 (by decide) fl_X12_344 (v := .int (mI σ l0 26)) rfl dX12_rowOf_4 ?_
    refine lv_icmp_ge hx hb dX12_rowOf_7 (tgt := 38) rfl (fun hc => ?_) (fun hc => ?_)
    · replace h := h.1 hc
      refine lv_iconst (v := (-1 : Int32)) hx hb dX12_rowOf_38 (by decide) ?_
      exact r_i C hr hW hS h dX12_rowOf_39
    · replace h := h.2 hc
      refine x_aload_n C hl dX12_rowOf_10 rfl ?_
      refine x_get C hW (t := 12) (k := 27) t1 kl_12 (by decide) fl_X12_77 (v := rv b0 (mR σ l0 27)) rfl dX12_rowOf_11 ?_
      refine x_iload_n C hl dX12_rowOf_14 rfl ?_
      have t2 := h.1
      replace h := h.2
      have v3 := h.1
      replace h := h.2
      refine x_iald C hW t2 v3 dX12_rowOf_15 ?_
      refine x_iload_n C hl dX12_rowOf_16 rfl ?_
      refine lv_icmp_ne hx hb dX12_rowOf_17 (tgt := 32) rfl (fun hc => ?_) (fun hc => ?_)
      · replace h := h.2 hc
        exact t_X12_rowOf_32 C hr hK2 hS hW (hl.keep [true, true, true, true] rfl) h
      · replace h := h.1 hc
        refine x_aload_n C hl dX12_rowOf_20 rfl ?_
        refine x_get C hW (t := 12) (k := 28) t1 kl_12 (by decide) fl_X12_80 (v := rv b0 (mR σ l0 28)) rfl dX12_rowOf_21 ?_
        refine x_iload_n C hl dX12_rowOf_24 rfl ?_
        have t4 := h.1
        replace h := h.2
        have v5 := h.1
        replace h := h.2
        refine x_iald C hW t4 v5 dX12_rowOf_25 ?_
        refine x_iload_n C hl dX12_rowOf_26 rfl ?_
        refine lv_icmp_ne hx hb dX12_rowOf_27 (tgt := 32) rfl (fun hc => ?_) (fun hc => ?_)
        · replace h := h.2 hc
          exact t_X12_rowOf_32 C hr hK2 hS hW (hl.keep [true, true, true, true] rfl) h
        · replace h := h.1 hc
          refine x_iload_n C hl dX12_rowOf_30 rfl ?_
          exact r_i C hr hW hS h dX12_rowOf_31
set_option maxRecDepth 20000 in
set_option maxHeartbeats 4000000 in
theorem t_X12_rowOf_2 {p : Program} {l : Launch} {e : Env} {s : State} {m : MethodId} {args : Array Value} {below : List Frame} {meth : Method} {c : Code} {H : Heap} {locs : List Loc} {D : va_G} {tc : Nat → ClassId} {b0 : Nat} {ls : Array Slot} {G : Lay} {Qx : Int32 → Mem → Prop} {l0 : Nat} {l1 : Int32} {l2 : Int32} {l3 : Int32}  {σ : Mem} (C : Cx p s m args meth c cX12_rowOf RX12 4 D tc b0) (hr : meth.sig.returnType = (some FieldType.int)) (hS : va_S (AA b0) s.heap H locs) (hW : Wd G D tc b0 σ H) (hl : hL b0 ls 4 [some (.inr (.inr l0)), some (.inl l1), some (.inl l2), some (.inl l3)]) (h : X_X12_rowOf_2 G Qx l0 l1 l2 l3 σ) : W p l e rm_X12_rowOf s m args below meth c H locs 0 0 (MQ below (va_Qi Qx (fun u t => Pw G D tc b0 u t) (AA b0)) args s 0 0 (AA b0)) (F0 m 2 ls []) := by
  obtain ⟨n, h⟩ := h
  exact t_X12_rowOf_2_n C hr n l3 σ H locs ls hS hW hl h
set_option maxRecDepth 20000 in
set_option maxHeartbeats 4000000 in
theorem t_X12_rowOf_0 {p : Program} {l : Launch} {e : Env} {s : State} {m : MethodId} {args : Array Value} {below : List Frame} {meth : Method} {c : Code} {H : Heap} {locs : List Loc} {D : va_G} {tc : Nat → ClassId} {b0 : Nat} {ls : Array Slot} {G : Lay} {Qx : Int32 → Mem → Prop} {l0 : Nat} {l1 : Int32} {l2 : Int32}  {σ : Mem} (C : Cx p s m args meth c cX12_rowOf RX12 4 D tc b0) (hr : meth.sig.returnType = (some FieldType.int)) (hS : va_S (AA b0) s.heap H locs) (hW : Wd G D tc b0 σ H) (hl : hL b0 ls 4 [some (.inr (.inr l0)), some (.inl l1), some (.inl l2), none]) (h : X_X12_rowOf_0 G Qx l0 l1 l2  σ) : W p l e rm_X12_rowOf s m args below meth c H locs 0 0 (MQ below (va_Qi Qx (fun u t => Pw G D tc b0 u t) (AA b0)) args s 0 0 (AA b0)) (F0 m 0 ls []) := by
  have hx := C.1
  have hb := C.2.1
  unfold X_X12_rowOf_0 at h
  refine lv_iconst (v := (0 : Int32)) hx hb dX12_rowOf_0 (by decide) ?_
  refine x_istore_n C hl dX12_rowOf_1 (by decide) rfl (fun ls hl => ?_)
  exact t_X12_rowOf_2 C hr hS hW (hl.keep [true, true, true, true] rfl) h
theorem T_X12_rowOf (l : Launch) {G : Lay} {D : va_G} {tc : Nat → ClassId} {b0 : Nat} (l0 : Nat) (l1 : Int32) (l2 : Int32) (σ : Mem) (Qx : Int32 → Mem → Prop) (h : X_X12_rowOf G Qx l0 l1 l2 σ) : MI l yX12_rowOf cX12_rowOf 4 ((some FieldType.int)) rm_X12_rowOf G D tc b0 [rv b0 l0, .int l1, .int l2] σ Qx :=
  x_entry (y := yX12_rowOf) [.inr (.inr l0), .inl l1, .inl l2] 1 (by decide) (Nat.le_of_ble_eq_true rfl) (fun p e s m args below meth c ls C hr hW hl => t_X12_rowOf_0 C hr va_S.rf hW (hl.keep [true, true, true, false] rfl) h)
/-! X12_hasMember -/
set_option maxRecDepth 20000 in
set_option maxHeartbeats 4000000 in
theorem t_X12_hasMember_40 {p : Program} {l : Launch} {e : Env} {s : State} {m : MethodId} {args : Array Value} {below : List Frame} {meth : Method} {c : Code} {H : Heap} {locs : List Loc} {D : va_G} {tc : Nat → ClassId} {b0 : Nat} {ls : Array Slot} {G : Lay} {Qx : Int32 → Mem → Prop}  {k0 : Int32} {σ : Mem} (C : Cx p s m args meth c cX12_hasMember RX12 4 D tc b0) (hr : meth.sig.returnType = (some FieldType.boolean)) (hS : va_S (AA b0) s.heap H locs) (hW : Wd G D tc b0 σ H) (hl : hL b0 ls 4 [none, none, none, none]) (h : X_X12_hasMember_40 G Qx  k0 σ) : W p l e rm_X12_hasMember s m args below meth c H locs 0 0 (MQ below (va_Qi Qx (fun u t => Pw G D tc b0 u t) (AA b0)) args s 0 0 (AA b0)) (F0 m 40 ls [.int k0]) := by
  have hx := C.1
  have hb := C.2.1
  unfold X_X12_hasMember_40 at h
  exact r_z C hr hW hS h.1 h.2 dX12_hasMember_40
set_option maxRecDepth 20000 in
set_option maxHeartbeats 4000000 in
theorem t_X12_hasMember_39 {p : Program} {l : Launch} {e : Env} {s : State} {m : MethodId} {args : Array Value} {below : List Frame} {meth : Method} {c : Code} {H : Heap} {locs : List Loc} {D : va_G} {tc : Nat → ClassId} {b0 : Nat} {ls : Array Slot} {G : Lay} {Qx : Int32 → Mem → Prop}   {σ : Mem} (C : Cx p s m args meth c cX12_hasMember RX12 4 D tc b0) (hr : meth.sig.returnType = (some FieldType.boolean)) (hS : va_S (AA b0) s.heap H locs) (hW : Wd G D tc b0 σ H) (hl : hL b0 ls 4 [none, none, none, none]) (h : X_X12_hasMember_39 G Qx   σ) : W p l e rm_X12_hasMember s m args below meth c H locs 0 0 (MQ below (va_Qi Qx (fun u t => Pw G D tc b0 u t) (AA b0)) args s 0 0 (AA b0)) (F0 m 39 ls []) := by
  have hx := C.1
  have hb := C.2.1
  unfold X_X12_hasMember_39 at h
  refine lv_iconst (v := (0 : Int32)) hx hb dX12_hasMember_39 (by decide) ?_
  exact t_X12_hasMember_40 C hr hS hW (hl.keep [false, false, false, false] rfl) h
set_option maxRecDepth 20000 in
set_option maxHeartbeats 4000000 in
theorem t_X12_hasMember_0 {p : Program} {l : Launch} {e : Env} {s : State} {m : MethodId} {args : Array Value} {below : List Frame} {meth : Method} {c : Code} {H : Heap} {locs : List Loc} {D : va_G} {tc : Nat → ClassId} {b0 : Nat} {ls : Array Slot} {G : Lay} {Qx : Int32 → Mem → Prop} {l0 : Nat} {l1 : Int32} {l2 : Int32} {l3 : Int32}  {σ : Mem} (C : Cx p s m args meth c cX12_hasMember RX12 4 D tc b0) (hr : meth.sig.returnType = (some FieldType.boolean)) (hS : va_S (AA b0) s.heap H locs) (hW : Wd G D tc b0 σ H) (hl : hL b0 ls 4 [some (.inr (.inr l0)), some (.inl l1), some (.inl l2), some (.inl l3)]) (h : X_X12_hasMember_0 G Qx l0 l1 l2 l3  σ) : W p l e rm_X12_hasMember s m args below meth c H locs 0 0 (MQ below (va_Qi Qx (fun u t => Pw G D tc b0 u t) (AA b0)) args s 0 0 (AA b0)) (F0 m 0 ls []) := by
  have hx := C.1
  have hb := C.2.1
  unfold X_X12_hasMember_0 at h
  refine x_aload_n C hl dX12_hasMember_0 rfl ?_
  refine lv_iconst (v := (0 : Int32)) hx hb dX12_hasMember_1 (by decide) ?_
  refine x_iload_n C hl dX12_hasMember_2 rfl ?_
  refine x_iload_n C hl dX12_hasMember_3 rfl ?_
  have t1 := h.1
  replace h := h.2
  refine y_i (x_run (As := [.int (0 : Int32), .int l1, .int l2]) C hW hS (T_X12_isA l l0 (0 : Int32) l1 l2 σ _ h) t1 kl_12 (CW.of yv_X12_isA ml_X12_315) ⟨rfl, rfl, ⟨by decide, by decide⟩, by decide, by decide⟩ rfl hl.1 rfl (by decide) dX12_hasMember_4) hS (fun w3 s2 H locs h hW hS => ?_)
  refine lv_if_eq hx hb dX12_hasMember_7 (tgt := 39) rfl (fun hc => ?_) (fun hc => ?_)
  · replace h := h.1 hc
    exact t_X12_hasMember_39 C hr hS hW (hl.keep [false, false, false, false] rfl) h
  · replace h := h.2 hc
    refine x_iload_n C hl dX12_hasMember_10 rfl ?_
    refine x_aload_n C hl dX12_hasMember_11 rfl ?_
    refine x_get C hW (t := 12) (k := 6) t1 kl_12 (by decide) fl_X12_23 (v := rv b0 (mR s2 l0 6)) rfl dX12_hasMember_12 ?_
    refine x_iload_n C hl dX12_hasMember_15 rfl ?_
    have t4 := h.1
    replace h := h.2
    have v5 := h.1
    replace h := h.2
    refine x_iald C hW t4 v5 dX12_hasMember_16 ?_
    refine lv_icmp_ge hx hb dX12_hasMember_17 (tgt := 39) rfl (fun hc => ?_) (fun hc => ?_)
    · replace h := h.1 hc
      exact t_X12_hasMember_39 C hr hS hW (hl.keep [false, false, false, false] rfl) h
    · replace h := h.2 hc
      refine x_aload_n C hl dX12_hasMember_20 rfl ?_
      refine x_get C hW (t := 12) (k := 15) t1 kl_12 (by decide) fl_X12_50 (v := rv b0 (mR s2 l0 15)) rfl dX12_hasMember_21 ?_
      refine lv_bipush (v := (16 : Int32)) hx hb dX12_hasMember_24 (by decide) ?_
      refine x_iload_n C hl dX12_hasMember_26 rfl ?_
      refine lv_imul hx hb dX12_hasMember_27 ?_
      refine x_iload_n C hl dX12_hasMember_28 rfl ?_
      refine lv_iadd hx hb dX12_hasMember_29 ?_
      have t6 := h.1
      replace h := h.2
      have v7 := h.1
      replace h := h.2
      refine x_iald C hW t6 v7 dX12_hasMember_30 ?_
      refine x_iload_n C hl dX12_hasMember_31 rfl ?_
      refine lv_icmp_ne hx hb dX12_hasMember_32 (tgt := 39) rfl (fun hc => ?_) (fun hc => ?_)
      · replace h := h.2 hc
        exact t_X12_hasMember_39 C hr hS hW (hl.keep [false, false, false, false] rfl) h
      · replace h := h.1 hc
        refine lv_iconst (v := (1 : Int32)) hx hb dX12_hasMember_35 (by decide) ?_
        refine lv_goto hx hb dX12_hasMember_36 (tgt := 40) rfl ?_
        exact t_X12_hasMember_40 C hr hS hW (hl.keep [false, false, false, false] rfl) h
theorem T_X12_hasMember (l : Launch) {G : Lay} {D : va_G} {tc : Nat → ClassId} {b0 : Nat} (l0 : Nat) (l1 : Int32) (l2 : Int32) (l3 : Int32) (σ : Mem) (Qx : Int32 → Mem → Prop) (h : X_X12_hasMember G Qx l0 l1 l2 l3 σ) : MI l yX12_hasMember cX12_hasMember 4 ((some FieldType.boolean)) rm_X12_hasMember G D tc b0 [rv b0 l0, .int l1, .int l2, .int l3] σ Qx :=
  x_entry (y := yX12_hasMember) [.inr (.inr l0), .inl l1, .inl l2, .inl l3] 0 (by decide) (Nat.le_of_ble_eq_true rfl) (fun p e s m args below meth c ls C hr hW hl => t_X12_hasMember_0 C hr va_S.rf hW (hl.keep [true, true, true, true] rfl) h)
/-! X12_breaks -/
set_option maxRecDepth 20000 in
set_option maxHeartbeats 4000000 in
theorem t_X12_breaks_0 {p : Program} {l : Launch} {e : Env} {s : State} {m : MethodId} {args : Array Value} {below : List Frame} {meth : Method} {c : Code} {H : Heap} {locs : List Loc} {D : va_G} {tc : Nat → ClassId} {b0 : Nat} {ls : Array Slot} {G : Lay} {Qx : Int32 → Mem → Prop} {l0 : Nat} {l1 : Int32} {l2 : Int32}  {σ : Mem} (C : Cx p s m args meth c cX12_breaks RX12 3 D tc b0) (hr : meth.sig.returnType = (some FieldType.boolean)) (hS : va_S (AA b0) s.heap H locs) (hW : Wd G D tc b0 σ H) (hl : hL b0 ls 3 [some (.inr (.inr l0)), some (.inl l1), some (.inl l2)]) (h : X_X12_breaks_0 G Qx l0 l1 l2  σ) : W p l e rm_X12_breaks s m args below meth c H locs 0 0 (MQ below (va_Qi Qx (fun u t => Pw G D tc b0 u t) (AA b0)) args s 0 0 (AA b0)) (F0 m 0 ls []) := by
  have hx := C.1
  have hb := C.2.1
  unfold X_X12_breaks_0 at h
  refine x_aload_n C hl dX12_breaks_0 rfl ?_
  refine x_iload_n C hl dX12_breaks_1 rfl ?_
  have t1 := h.1
  replace h := h.2
  refine x_putI C hW hS (t := 12) (k := 57) t1 kl_12 (by decide) fl_X12_356 rfl rfl rfl rfl dX12_breaks_2 (fun H locs hW hS => ?_)
  obtain ⟨s2, e_s2⟩ : ∃ z : Mem, z = (sI σ l0 57 l1) := ⟨_, rfl⟩
  replace h := h s2 e_s2
  replace hW : Wd G D tc b0 s2 H := by rw [e_s2]; exact hW
  refine x_aload_n C hl dX12_breaks_5 rfl ?_
  refine x_iload_n C hl dX12_breaks_6 rfl ?_
  refine x_putI C hW hS (t := 12) (k := 58) t1 kl_12 (by decide) fl_X12_359 rfl rfl rfl rfl dX12_breaks_7 (fun H locs hW hS => ?_)
  obtain ⟨s3, e_s3⟩ : ∃ z : Mem, z = (sI s2 l0 58 l2) := ⟨_, rfl⟩
  replace h := h s3 e_s3
  replace hW : Wd G D tc b0 s3 H := by rw [e_s3]; exact hW
  refine lv_iconst (v := (1 : Int32)) hx hb dX12_breaks_10 (by decide) ?_
  exact r_z C hr hW hS h.1 h.2 dX12_breaks_11
theorem T_X12_breaks (l : Launch) {G : Lay} {D : va_G} {tc : Nat → ClassId} {b0 : Nat} (l0 : Nat) (l1 : Int32) (l2 : Int32) (σ : Mem) (Qx : Int32 → Mem → Prop) (h : X_X12_breaks G Qx l0 l1 l2 σ) : MI l yX12_breaks cX12_breaks 3 ((some FieldType.boolean)) rm_X12_breaks G D tc b0 [rv b0 l0, .int l1, .int l2] σ Qx :=
  x_entry (y := yX12_breaks) [.inr (.inr l0), .inl l1, .inl l2] 0 (by decide) (Nat.le_of_ble_eq_true rfl) (fun p e s m args below meth c ls C hr hW hl => t_X12_breaks_0 C hr va_S.rf hW (hl.keep [true, true, true] rfl) h)
/-! X12_broken -/
set_option maxRecDepth 20000 in
set_option maxHeartbeats 4000000 in
theorem t_X12_broken_201 {p : Program} {l : Launch} {e : Env} {s : State} {m : MethodId} {args : Array Value} {below : List Frame} {meth : Method} {c : Code} {H : Heap} {locs : List Loc} {D : va_G} {tc : Nat → ClassId} {b0 : Nat} {ls : Array Slot} {G : Lay} {Qx : Int32 → Mem → Prop} {l0 : Nat} {l1 : Int32} {l2 : Int32} {l3 : Int32} {l4 : Nat} {l5 : Int32} {l6 : Int32} {l7 : Int32} {l8 : Int32} {l9 : Int32}  {K3 : Int32 × Mem → Prop} {K109 : Int32 × Mem → Prop} {σ : Mem} (C : Cx p s m args meth c cX12_broken RX12 13 D tc b0) (hr : meth.sig.returnType = (some FieldType.boolean)) (hK3 : ∀ (x6 : Int32) (σ : Mem) (H : Heap) (locs : List Loc) (ls : Array Slot), va_S (AA b0) s.heap H locs → Wd G D tc b0 σ H → hL b0 ls 13 [some (.inr (.inr l0)), some (.inl l1), some (.inl l2), some (.inl l3), some (.inr (.inr l4)), some (.inl l5), some (.inl x6), none, none, none, none, none, none] → K3 (x6, σ) → W p l e rm_X12_broken s m args below meth c H locs 0 0 (MQ below (va_Qi Qx (fun u t => Pw G D tc b0 u t) (AA b0)) args s 0 0 (AA b0)) (F0 m 3 ls [])) (hK109 : ∀ (x9 : Int32) (σ : Mem) (H : Heap) (locs : List Loc) (ls : Array Slot), va_S (AA b0) s.heap H locs → Wd G D tc b0 σ H → hL b0 ls 13 [some (.inr (.inr l0)), some (.inl l1), some (.inl l2), some (.inl l3), some (.inr (.inr l4)), some (.inl l5), some (.inl l6), some (.inl l7), some (.inl l8), some (.inl x9), none, none, none] → K109 (x9, σ) → W p l e rm_X12_broken s m args below meth c H locs 0 0 (MQ below (va_Qi Qx (fun u t => Pw G D tc b0 u t) (AA b0)) args s 0 0 (AA b0)) (F0 m 109 ls [])) (hS : va_S (AA b0) s.heap H locs) (hW : Wd G D tc b0 σ H) (hl : hL b0 ls 13 [some (.inr (.inr l0)), some (.inl l1), some (.inl l2), some (.inl l3), some (.inr (.inr l4)), some (.inl l5), some (.inl l6), some (.inl l7), some (.inl l8), some (.inl l9), none, none, none]) (h : X_X12_broken_201 G Qx K3 K109 l0 l1 l2 l3 l4 l5 l6 l7 l8 l9  σ) : W p l e rm_X12_broken s m args below meth c H locs 0 0 (MQ below (va_Qi Qx (fun u t => Pw G D tc b0 u t) (AA b0)) args s 0 0 (AA b0)) (F0 m 201 ls []) := by
  have hx := C.1
  have hb := C.2.1
  unfold X_X12_broken_201 at h
  refine x_iinc C hl dX12_broken_201 rfl (v := (1 : Int32)) (by decide) (by decide) rfl (fun ls hl => ?_)
  refine lv_goto hx hb dX12_broken_204 (tgt := 109) rfl ?_
  exact hK109 _ _ _ _ _ hS hW (hl.keep [true, true, true, true, true, true, true, true, true, true, false, false, false] rfl) h
set_option maxRecDepth 20000 in
set_option maxHeartbeats 4000000 in
theorem t_X12_broken_145 {p : Program} {l : Launch} {e : Env} {s : State} {m : MethodId} {args : Array Value} {below : List Frame} {meth : Method} {c : Code} {H : Heap} {locs : List Loc} {D : va_G} {tc : Nat → ClassId} {b0 : Nat} {ls : Array Slot} {G : Lay} {Qx : Int32 → Mem → Prop} {l0 : Nat} {l1 : Int32} {l2 : Int32} {l3 : Int32} {l4 : Nat} {l5 : Int32} {l6 : Int32} {l7 : Int32} {l8 : Int32} {l9 : Int32} {k0 : Int32} {K3 : Int32 × Mem → Prop} {K109 : Int32 × Mem → Prop} {σ : Mem} (C : Cx p s m args meth c cX12_broken RX12 13 D tc b0) (hr : meth.sig.returnType = (some FieldType.boolean)) (hK3 : ∀ (x6 : Int32) (σ : Mem) (H : Heap) (locs : List Loc) (ls : Array Slot), va_S (AA b0) s.heap H locs → Wd G D tc b0 σ H → hL b0 ls 13 [some (.inr (.inr l0)), some (.inl l1), some (.inl l2), some (.inl l3), some (.inr (.inr l4)), some (.inl l5), some (.inl x6), none, none, none, none, none, none] → K3 (x6, σ) → W p l e rm_X12_broken s m args below meth c H locs 0 0 (MQ below (va_Qi Qx (fun u t => Pw G D tc b0 u t) (AA b0)) args s 0 0 (AA b0)) (F0 m 3 ls [])) (hK109 : ∀ (x9 : Int32) (σ : Mem) (H : Heap) (locs : List Loc) (ls : Array Slot), va_S (AA b0) s.heap H locs → Wd G D tc b0 σ H → hL b0 ls 13 [some (.inr (.inr l0)), some (.inl l1), some (.inl l2), some (.inl l3), some (.inr (.inr l4)), some (.inl l5), some (.inl l6), some (.inl l7), some (.inl l8), some (.inl x9), none, none, none] → K109 (x9, σ) → W p l e rm_X12_broken s m args below meth c H locs 0 0 (MQ below (va_Qi Qx (fun u t => Pw G D tc b0 u t) (AA b0)) args s 0 0 (AA b0)) (F0 m 109 ls [])) (hS : va_S (AA b0) s.heap H locs) (hW : Wd G D tc b0 σ H) (hl : hL b0 ls 13 [some (.inr (.inr l0)), some (.inl l1), some (.inl l2), some (.inl l3), some (.inr (.inr l4)), some (.inl l5), some (.inl l6), some (.inl l7), some (.inl l8), some (.inl l9), none, none, none]) (h : X_X12_broken_145 G Qx K3 K109 l0 l1 l2 l3 l4 l5 l6 l7 l8 l9 k0 σ) : W p l e rm_X12_broken s m args below meth c H locs 0 0 (MQ below (va_Qi Qx (fun u t => Pw G D tc b0 u t) (AA b0)) args s 0 0 (AA b0)) (F0 m 145 ls [.int k0]) := by
  have hx := C.1
  have hb := C.2.1
  unfold X_X12_broken_145 at h
  refine x_istore C hl dX12_broken_145 (by decide) rfl (fun ls hl => ?_)
  refine x_iload C hl dX12_broken_147 rfl ?_
  refine lv_if_ne hx hb dX12_broken_149 (tgt := 201) rfl (fun hc => ?_) (fun hc => ?_)
  · replace h := h.2 hc
    exact t_X12_broken_201 C hr hK3 hK109 hS hW (hl.keep [true, true, true, true, true, true, true, true, true, true, false, false, false] rfl) h
  · replace h := h.1 hc
    refine x_aload_n C hl dX12_broken_152 rfl ?_
    refine x_aload_n C hl dX12_broken_153 rfl ?_
    have t1 := h.1
    replace h := h.2
    refine x_get C hW (t := 12) (k := 29) t1 kl_12 (by decide) fl_X12_83 (v := rv b0 (mR σ l0 29)) rfl dX12_broken_154 ?_
    refine x_iload C hl dX12_broken_157 rfl ?_
    have t2 := h.1
    replace h := h.2
    have v3 := h.1
    replace h := h.2
    refine x_iald C hW t2 v3 dX12_broken_159 ?_
    refine x_aload_n C hl dX12_broken_160 rfl ?_
    refine x_get C hW (t := 12) (k := 15) t1 kl_12 (by decide) fl_X12_50 (v := rv b0 (mR σ l0 15)) rfl dX12_broken_161 ?_
    refine x_iload C hl dX12_broken_164 rfl ?_
    have t4 := h.1
    replace h := h.2
    have v5 := h.1
    replace h := h.2
    refine x_iald C hW t4 v5 dX12_broken_166 ?_
    refine x_iload C hl dX12_broken_167 rfl ?_
    refine y_i (x_run (As := [.int (mI σ (mR σ l0 29) l9.toNatClampNeg), .int (mI σ (mR σ l0 15) l7.toNatClampNeg), .int l6]) C hW hS (T_X12_hasMember l l0 (mI σ (mR σ l0 29) l9.toNatClampNeg) (mI σ (mR σ l0 15) l7.toNatClampNeg) l6 σ _ h) t1 kl_12 (CW.of yv_X12_hasMember ml_X12_366) ⟨rfl, rfl, ⟨by decide, by decide⟩, by decide, by decide⟩ rfl hl.1 rfl (by decide) dX12_broken_169) hS (fun w7 s6 H locs h hW hS => ?_)
    refine lv_if_eq hx hb dX12_broken_172 (tgt := 201) rfl (fun hc => ?_) (fun hc => ?_)
    · replace h := h.1 hc
      exact t_X12_broken_201 C hr hK3 hK109 hS hW (hl.keep [true, true, true, true, true, true, true, true, true, true, false, false, false] rfl) h
    · replace h := h.2 hc
      refine x_aload_n C hl dX12_broken_175 rfl ?_
      refine x_get C hW (t := 12) (k := 31) t1 kl_12 (by decide) fl_X12_89 (v := rv b0 (mR s6 l0 31)) rfl dX12_broken_176 ?_
      refine lv_bipush (v := (16 : Int32)) hx hb dX12_broken_179 (by decide) ?_
      refine x_iload C hl dX12_broken_181 rfl ?_
      refine lv_imul hx hb dX12_broken_183 ?_
      refine x_iload C hl dX12_broken_184 rfl ?_
      refine lv_iadd hx hb dX12_broken_186 ?_
      have t8 := h.1
      replace h := h.2
      have v9 := h.1
      replace h := h.2
      refine x_iald C hW t8 v9 dX12_broken_187 ?_
      refine x_iload C hl dX12_broken_188 rfl ?_
      refine lv_icmp_ne hx hb dX12_broken_190 (tgt := 201) rfl (fun hc => ?_) (fun hc => ?_)
      · replace h := h.2 hc
        exact t_X12_broken_201 C hr hK3 hK109 hS hW (hl.keep [true, true, true, true, true, true, true, true, true, true, false, false, false] rfl) h
      · replace h := h.1 hc
        refine x_aload_n C hl dX12_broken_193 rfl ?_
        refine x_iload C hl dX12_broken_194 rfl ?_
        refine lv_iconst (v := (1 : Int32)) hx hb dX12_broken_196 (by decide) ?_
        refine y_i (x_run (As := [.int l6, .int (1 : Int32)]) C hW hS (T_X12_breaks l l0 l6 (1 : Int32) s6 _ h) t1 kl_12 (CW.of yv_X12_breaks ml_X12_362) ⟨rfl, rfl, ⟨by decide, by decide⟩, by decide, by decide⟩ rfl hl.1 rfl (by decide) dX12_broken_197) hS (fun w11 s10 H locs h hW hS => ?_)
        exact r_z C hr hW hS h.1 h.2 dX12_broken_200
set_option maxRecDepth 20000 in
set_option maxHeartbeats 4000000 in
theorem t_X12_broken_144 {p : Program} {l : Launch} {e : Env} {s : State} {m : MethodId} {args : Array Value} {below : List Frame} {meth : Method} {c : Code} {H : Heap} {locs : List Loc} {D : va_G} {tc : Nat → ClassId} {b0 : Nat} {ls : Array Slot} {G : Lay} {Qx : Int32 → Mem → Prop} {l0 : Nat} {l1 : Int32} {l2 : Int32} {l3 : Int32} {l4 : Nat} {l5 : Int32} {l6 : Int32} {l7 : Int32} {l8 : Int32} {l9 : Int32}  {K3 : Int32 × Mem → Prop} {K109 : Int32 × Mem → Prop} {σ : Mem} (C : Cx p s m args meth c cX12_broken RX12 13 D tc b0) (hr : meth.sig.returnType = (some FieldType.boolean)) (hK3 : ∀ (x6 : Int32) (σ : Mem) (H : Heap) (locs : List Loc) (ls : Array Slot), va_S (AA b0) s.heap H locs → Wd G D tc b0 σ H → hL b0 ls 13 [some (.inr (.inr l0)), some (.inl l1), some (.inl l2), some (.inl l3), some (.inr (.inr l4)), some (.inl l5), some (.inl x6), none, none, none, none, none, none] → K3 (x6, σ) → W p l e rm_X12_broken s m args below meth c H locs 0 0 (MQ below (va_Qi Qx (fun u t => Pw G D tc b0 u t) (AA b0)) args s 0 0 (AA b0)) (F0 m 3 ls [])) (hK109 : ∀ (x9 : Int32) (σ : Mem) (H : Heap) (locs : List Loc) (ls : Array Slot), va_S (AA b0) s.heap H locs → Wd G D tc b0 σ H → hL b0 ls 13 [some (.inr (.inr l0)), some (.inl l1), some (.inl l2), some (.inl l3), some (.inr (.inr l4)), some (.inl l5), some (.inl l6), some (.inl l7), some (.inl l8), some (.inl x9), none, none, none] → K109 (x9, σ) → W p l e rm_X12_broken s m args below meth c H locs 0 0 (MQ below (va_Qi Qx (fun u t => Pw G D tc b0 u t) (AA b0)) args s 0 0 (AA b0)) (F0 m 109 ls [])) (hS : va_S (AA b0) s.heap H locs) (hW : Wd G D tc b0 σ H) (hl : hL b0 ls 13 [some (.inr (.inr l0)), some (.inl l1), some (.inl l2), some (.inl l3), some (.inr (.inr l4)), some (.inl l5), some (.inl l6), some (.inl l7), some (.inl l8), some (.inl l9), none, none, none]) (h : X_X12_broken_144 G Qx K3 K109 l0 l1 l2 l3 l4 l5 l6 l7 l8 l9  σ) : W p l e rm_X12_broken s m args below meth c H locs 0 0 (MQ below (va_Qi Qx (fun u t => Pw G D tc b0 u t) (AA b0)) args s 0 0 (AA b0)) (F0 m 144 ls []) := by
  have hx := C.1
  have hb := C.2.1
  unfold X_X12_broken_144 at h
  refine lv_iconst (v := (0 : Int32)) hx hb dX12_broken_144 (by decide) ?_
  exact t_X12_broken_145 C hr hK3 hK109 hS hW (hl.keep [true, true, true, true, true, true, true, true, true, true, false, false, false] rfl) h
set_option maxRecDepth 20000 in
set_option maxHeartbeats 4000000 in
theorem t_X12_broken_323 {p : Program} {l : Launch} {e : Env} {s : State} {m : MethodId} {args : Array Value} {below : List Frame} {meth : Method} {c : Code} {H : Heap} {locs : List Loc} {D : va_G} {tc : Nat → ClassId} {b0 : Nat} {ls : Array Slot} {G : Lay} {Qx : Int32 → Mem → Prop} {l0 : Nat} {l6 : Int32}  {σ : Mem} (C : Cx p s m args meth c cX12_broken RX12 13 D tc b0) (hr : meth.sig.returnType = (some FieldType.boolean)) (hS : va_S (AA b0) s.heap H locs) (hW : Wd G D tc b0 σ H) (hl : hL b0 ls 13 [some (.inr (.inr l0)), none, none, none, none, none, some (.inl l6), none, none, none, none, none, none]) (h : X_X12_broken_323 G Qx l0 l6  σ) : W p l e rm_X12_broken s m args below meth c H locs 0 0 (MQ below (va_Qi Qx (fun u t => Pw G D tc b0 u t) (AA b0)) args s 0 0 (AA b0)) (F0 m 323 ls []) := by
  have hx := C.1
  have hb := C.2.1
  unfold X_X12_broken_323 at h
  refine x_aload_n C hl dX12_broken_323 rfl ?_
  refine x_iload C hl dX12_broken_324 rfl ?_
  refine lv_iconst (v := (2 : Int32)) hx hb dX12_broken_326 (by decide) ?_
  have t1 := h.1
  replace h := h.2
  refine y_i (x_run (As := [.int l6, .int (2 : Int32)]) C hW hS (T_X12_breaks l l0 l6 (2 : Int32) σ _ h) t1 kl_12 (CW.of yv_X12_breaks ml_X12_362) ⟨rfl, rfl, ⟨by decide, by decide⟩, by decide, by decide⟩ rfl hl.1 rfl (by decide) dX12_broken_327) hS (fun w3 s2 H locs h hW hS => ?_)
  exact r_z C hr hW hS h.1 h.2 dX12_broken_330
set_option maxRecDepth 20000 in
set_option maxHeartbeats 4000000 in
theorem t_X12_broken_331 {p : Program} {l : Launch} {e : Env} {s : State} {m : MethodId} {args : Array Value} {below : List Frame} {meth : Method} {c : Code} {H : Heap} {locs : List Loc} {D : va_G} {tc : Nat → ClassId} {b0 : Nat} {ls : Array Slot} {G : Lay} {Qx : Int32 → Mem → Prop} {l0 : Nat} {l1 : Int32} {l2 : Int32} {l3 : Int32} {l4 : Nat} {l5 : Int32} {l6 : Int32}  {K3 : Int32 × Mem → Prop} {σ : Mem} (C : Cx p s m args meth c cX12_broken RX12 13 D tc b0) (hr : meth.sig.returnType = (some FieldType.boolean)) (hK3 : ∀ (x6 : Int32) (σ : Mem) (H : Heap) (locs : List Loc) (ls : Array Slot), va_S (AA b0) s.heap H locs → Wd G D tc b0 σ H → hL b0 ls 13 [some (.inr (.inr l0)), some (.inl l1), some (.inl l2), some (.inl l3), some (.inr (.inr l4)), some (.inl l5), some (.inl x6), none, none, none, none, none, none] → K3 (x6, σ) → W p l e rm_X12_broken s m args below meth c H locs 0 0 (MQ below (va_Qi Qx (fun u t => Pw G D tc b0 u t) (AA b0)) args s 0 0 (AA b0)) (F0 m 3 ls [])) (hS : va_S (AA b0) s.heap H locs) (hW : Wd G D tc b0 σ H) (hl : hL b0 ls 13 [some (.inr (.inr l0)), some (.inl l1), some (.inl l2), some (.inl l3), some (.inr (.inr l4)), some (.inl l5), some (.inl l6), none, none, none, none, none, none]) (h : X_X12_broken_331 G Qx K3 l0 l1 l2 l3 l4 l5 l6  σ) : W p l e rm_X12_broken s m args below meth c H locs 0 0 (MQ below (va_Qi Qx (fun u t => Pw G D tc b0 u t) (AA b0)) args s 0 0 (AA b0)) (F0 m 331 ls []) := by
  have hx := C.1
  have hb := C.2.1
  unfold X_X12_broken_331 at h
  refine x_iinc C hl dX12_broken_331 rfl (v := (1 : Int32)) (by decide) (by decide) rfl (fun ls hl => ?_)
  refine lv_goto hx hb dX12_broken_334 (tgt := 3) rfl ?_
  exact hK3 _ _ _ _ _ hS hW (hl.keep [true, true, true, true, true, true, true, false, false, false, false, false, false] rfl) h
set_option maxRecDepth 20000 in
set_option maxHeartbeats 4000000 in
theorem t_X12_broken_299 {p : Program} {l : Launch} {e : Env} {s : State} {m : MethodId} {args : Array Value} {below : List Frame} {meth : Method} {c : Code} {H : Heap} {locs : List Loc} {D : va_G} {tc : Nat → ClassId} {b0 : Nat} {ls : Array Slot} {G : Lay} {Qx : Int32 → Mem → Prop} {l0 : Nat} {l1 : Int32} {l2 : Int32} {l3 : Int32} {l4 : Nat} {l5 : Int32} {l6 : Int32} {l7 : Int32} {k0 : Int32} {K3 : Int32 × Mem → Prop} {σ : Mem} (C : Cx p s m args meth c cX12_broken RX12 13 D tc b0) (hr : meth.sig.returnType = (some FieldType.boolean)) (hK3 : ∀ (x6 : Int32) (σ : Mem) (H : Heap) (locs : List Loc) (ls : Array Slot), va_S (AA b0) s.heap H locs → Wd G D tc b0 σ H → hL b0 ls 13 [some (.inr (.inr l0)), some (.inl l1), some (.inl l2), some (.inl l3), some (.inr (.inr l4)), some (.inl l5), some (.inl x6), none, none, none, none, none, none] → K3 (x6, σ) → W p l e rm_X12_broken s m args below meth c H locs 0 0 (MQ below (va_Qi Qx (fun u t => Pw G D tc b0 u t) (AA b0)) args s 0 0 (AA b0)) (F0 m 3 ls [])) (hS : va_S (AA b0) s.heap H locs) (hW : Wd G D tc b0 σ H) (hl : hL b0 ls 13 [some (.inr (.inr l0)), some (.inl l1), some (.inl l2), some (.inl l3), some (.inr (.inr l4)), some (.inl l5), some (.inl l6), some (.inl l7), none, none, none, none, none]) (h : X_X12_broken_299 G Qx K3 l0 l1 l2 l3 l4 l5 l6 l7 k0 σ) : W p l e rm_X12_broken s m args below meth c H locs 0 0 (MQ below (va_Qi Qx (fun u t => Pw G D tc b0 u t) (AA b0)) args s 0 0 (AA b0)) (F0 m 299 ls [.int k0]) := by
  have hx := C.1
  have hb := C.2.1
  unfold X_X12_broken_299 at h
  refine x_istore C hl dX12_broken_299 (by decide) rfl (fun ls hl => ?_)
  refine x_iload C hl dX12_broken_301 rfl ?_
  refine lv_if_lt hx hb dX12_broken_303 (tgt := 323) rfl (fun hc => ?_) (fun hc => ?_)
  · replace h := h.1 hc
    exact t_X12_broken_323 C hr hS hW (hl.keep [true, false, false, false, false, false, true, false, false, false, false, false, false] rfl) h
  · replace h := h.2 hc
    refine x_aload_n C hl dX12_broken_306 rfl ?_
    refine lv_iconst (v := (0 : Int32)) hx hb dX12_broken_307 (by decide) ?_
    refine x_iload C hl dX12_broken_308 rfl ?_
    refine x_aload_n C hl dX12_broken_310 rfl ?_
    have t1 := h.1
    replace h := h.2
    refine x_get C hW (t := 12) (k := 10) t1 kl_12 (by decide) fl_X12_35 (v := rv b0 (mR σ l0 10)) rfl dX12_broken_311 ?_
    refine x_iload C hl dX12_broken_314 rfl ?_
    have t2 := h.1
    replace h := h.2
    have v3 := h.1
    replace h := h.2
    refine x_iald C hW t2 v3 dX12_broken_316 ?_
    refine y_i (x_run (As := [.int (0 : Int32), .int k0, .int (mI σ (mR σ l0 10) l7.toNatClampNeg)]) C hW hS (T_X12_isA l l0 (0 : Int32) k0 (mI σ (mR σ l0 10) l7.toNatClampNeg) σ _ h) t1 kl_12 (CW.of yv_X12_isA ml_X12_315) ⟨rfl, rfl, ⟨by decide, by decide⟩, by decide, by decide⟩ rfl hl.1 rfl (by decide) dX12_broken_317) hS (fun w5 s4 H locs h hW hS => ?_)
    refine lv_if_ne hx hb dX12_broken_320 (tgt := 331) rfl (fun hc => ?_) (fun hc => ?_)
    · replace h := h.2 hc
      exact t_X12_broken_331 C hr hK3 hS hW (hl.keep [true, true, true, true, true, true, true, false, false, false, false, false, false] rfl) h
    · replace h := h.1 hc
      exact t_X12_broken_323 C hr hS hW (hl.keep [true, false, false, false, false, false, true, false, false, false, false, false, false] rfl) h
set_option maxRecDepth 20000 in
set_option maxHeartbeats 4000000 in
theorem t_X12_broken_272 {p : Program} {l : Launch} {e : Env} {s : State} {m : MethodId} {args : Array Value} {below : List Frame} {meth : Method} {c : Code} {H : Heap} {locs : List Loc} {D : va_G} {tc : Nat → ClassId} {b0 : Nat} {ls : Array Slot} {G : Lay} {Qx : Int32 → Mem → Prop} {l0 : Nat} {l1 : Int32} {l2 : Int32} {l3 : Int32} {l4 : Nat} {l5 : Int32} {l6 : Int32} {l7 : Int32} {l10 : Int32} {k0 : Int32} {K3 : Int32 × Mem → Prop} {σ : Mem} (C : Cx p s m args meth c cX12_broken RX12 13 D tc b0) (hr : meth.sig.returnType = (some FieldType.boolean)) (hK3 : ∀ (x6 : Int32) (σ : Mem) (H : Heap) (locs : List Loc) (ls : Array Slot), va_S (AA b0) s.heap H locs → Wd G D tc b0 σ H → hL b0 ls 13 [some (.inr (.inr l0)), some (.inl l1), some (.inl l2), some (.inl l3), some (.inr (.inr l4)), some (.inl l5), some (.inl x6), none, none, none, none, none, none] → K3 (x6, σ) → W p l e rm_X12_broken s m args below meth c H locs 0 0 (MQ below (va_Qi Qx (fun u t => Pw G D tc b0 u t) (AA b0)) args s 0 0 (AA b0)) (F0 m 3 ls [])) (hS : va_S (AA b0) s.heap H locs) (hW : Wd G D tc b0 σ H) (hl : hL b0 ls 13 [some (.inr (.inr l0)), some (.inl l1), some (.inl l2), some (.inl l3), some (.inr (.inr l4)), some (.inl l5), some (.inl l6), some (.inl l7), none, none, some (.inl l10), none, none]) (h : X_X12_broken_272 G Qx K3 l0 l1 l2 l3 l4 l5 l6 l7 l10 k0 σ) : W p l e rm_X12_broken s m args below meth c H locs 0 0 (MQ below (va_Qi Qx (fun u t => Pw G D tc b0 u t) (AA b0)) args s 0 0 (AA b0)) (F0 m 272 ls [.int k0]) := by
  have hx := C.1
  have hb := C.2.1
  unfold X_X12_broken_272 at h
  refine x_istore C hl dX12_broken_272 (by decide) rfl (fun ls hl => ?_)
  refine x_iload C hl dX12_broken_274 rfl ?_
  refine lv_if_eq hx hb dX12_broken_276 (tgt := 283) rfl (fun hc => ?_) (fun hc => ?_)
  · replace h := h.1 hc
    refine x_iload C hl dX12_broken_283 rfl ?_
    refine lv_if_ge hx hb dX12_broken_285 (tgt := 292) rfl (fun hc => ?_) (fun hc => ?_)
    · replace h := h.1 hc
      refine x_aload_n C hl dX12_broken_292 rfl ?_
      have t1 := h.1
      replace h := h.2
      refine x_get C hW (t := 12) (k := 29) t1 kl_12 (by decide) fl_X12_83 (v := rv b0 (mR σ l0 29)) rfl dX12_broken_293 ?_
      refine x_iload C hl dX12_broken_296 rfl ?_
      have t2 := h.1
      replace h := h.2
      have v3 := h.1
      replace h := h.2
      refine x_iald C hW t2 v3 dX12_broken_298 ?_
      exact t_X12_broken_299 C hr hK3 hS hW (hl.keep [true, true, true, true, true, true, true, true, false, false, false, false, false] rfl) h
    · replace h := h.2 hc
      refine lv_iconst (v := (-1 : Int32)) hx hb dX12_broken_288 (by decide) ?_
      refine lv_goto hx hb dX12_broken_289 (tgt := 299) rfl ?_
      exact t_X12_broken_299 C hr hK3 hS hW (hl.keep [true, true, true, true, true, true, true, true, false, false, false, false, false] rfl) h
  · replace h := h.2 hc
    refine x_iload_n C hl dX12_broken_279 rfl ?_
    refine lv_goto hx hb dX12_broken_280 (tgt := 299) rfl ?_
    exact t_X12_broken_299 C hr hK3 hS hW (hl.keep [true, true, true, true, true, true, true, true, false, false, false, false, false] rfl) h
set_option maxRecDepth 20000 in
set_option maxHeartbeats 4000000 in
theorem t_X12_broken_253 {p : Program} {l : Launch} {e : Env} {s : State} {m : MethodId} {args : Array Value} {below : List Frame} {meth : Method} {c : Code} {H : Heap} {locs : List Loc} {D : va_G} {tc : Nat → ClassId} {b0 : Nat} {ls : Array Slot} {G : Lay} {Qx : Int32 → Mem → Prop} {l0 : Nat} {l1 : Int32} {l2 : Int32} {l3 : Int32} {l4 : Nat} {l5 : Int32} {l6 : Int32} {l7 : Int32} {l8 : Int32} {l9 : Int32} {k0 : Int32} {K3 : Int32 × Mem → Prop} {σ : Mem} (C : Cx p s m args meth c cX12_broken RX12 13 D tc b0) (hr : meth.sig.returnType = (some FieldType.boolean)) (hK3 : ∀ (x6 : Int32) (σ : Mem) (H : Heap) (locs : List Loc) (ls : Array Slot), va_S (AA b0) s.heap H locs → Wd G D tc b0 σ H → hL b0 ls 13 [some (.inr (.inr l0)), some (.inl l1), some (.inl l2), some (.inl l3), some (.inr (.inr l4)), some (.inl l5), some (.inl x6), none, none, none, none, none, none] → K3 (x6, σ) → W p l e rm_X12_broken s m args below meth c H locs 0 0 (MQ below (va_Qi Qx (fun u t => Pw G D tc b0 u t) (AA b0)) args s 0 0 (AA b0)) (F0 m 3 ls [])) (hS : va_S (AA b0) s.heap H locs) (hW : Wd G D tc b0 σ H) (hl : hL b0 ls 13 [some (.inr (.inr l0)), some (.inl l1), some (.inl l2), some (.inl l3), some (.inr (.inr l4)), some (.inl l5), some (.inl l6), some (.inl l7), some (.inl l8), some (.inl l9), none, none, none]) (h : X_X12_broken_253 G Qx K3 l0 l1 l2 l3 l4 l5 l6 l7 l8 l9 k0 σ) : W p l e rm_X12_broken s m args below meth c H locs 0 0 (MQ below (va_Qi Qx (fun u t => Pw G D tc b0 u t) (AA b0)) args s 0 0 (AA b0)) (F0 m 253 ls [.int k0]) := by
  have hx := C.1
  have hb := C.2.1
  unfold X_X12_broken_253 at h
  refine x_istore C hl dX12_broken_253 (by decide) rfl (fun ls hl => ?_)
  refine x_iload C hl dX12_broken_255 rfl ?_
  refine lv_if_eq hx hb dX12_broken_257 (tgt := 264) rfl (fun hc => ?_) (fun hc => ?_)
  · replace h := h.1 hc
    refine x_aload_n C hl dX12_broken_264 rfl ?_
    refine x_iload C hl dX12_broken_265 rfl ?_
    refine x_iload C hl dX12_broken_267 rfl ?_
    have t1 := h.1
    replace h := h.2
    refine y_i (x_run (As := [.int l9, .int l8]) C hW hS (T_X12_rowOf l l0 l9 l8 σ _ h) t1 kl_12 (CW.of yv_X12_rowOf ml_X12_369) ⟨rfl, rfl, ⟨by decide, by decide⟩, by decide, by decide⟩ rfl hl.1 rfl (by decide) dX12_broken_269) hS (fun w3 s2 H locs h hW hS => ?_)
    exact t_X12_broken_272 C hr hK3 hS hW (hl.keep [true, true, true, true, true, true, true, true, false, false, true, false, false] rfl) h
  · replace h := h.2 hc
    refine lv_iconst (v := (-1 : Int32)) hx hb dX12_broken_260 (by decide) ?_
    refine lv_goto hx hb dX12_broken_261 (tgt := 272) rfl ?_
    exact t_X12_broken_272 C hr hK3 hS hW (hl.keep [true, true, true, true, true, true, true, true, false, false, true, false, false] rfl) h
set_option maxRecDepth 20000 in
set_option maxHeartbeats 4000000 in
theorem t_X12_broken_252 {p : Program} {l : Launch} {e : Env} {s : State} {m : MethodId} {args : Array Value} {below : List Frame} {meth : Method} {c : Code} {H : Heap} {locs : List Loc} {D : va_G} {tc : Nat → ClassId} {b0 : Nat} {ls : Array Slot} {G : Lay} {Qx : Int32 → Mem → Prop} {l0 : Nat} {l1 : Int32} {l2 : Int32} {l3 : Int32} {l4 : Nat} {l5 : Int32} {l6 : Int32} {l7 : Int32} {l8 : Int32} {l9 : Int32}  {K3 : Int32 × Mem → Prop} {σ : Mem} (C : Cx p s m args meth c cX12_broken RX12 13 D tc b0) (hr : meth.sig.returnType = (some FieldType.boolean)) (hK3 : ∀ (x6 : Int32) (σ : Mem) (H : Heap) (locs : List Loc) (ls : Array Slot), va_S (AA b0) s.heap H locs → Wd G D tc b0 σ H → hL b0 ls 13 [some (.inr (.inr l0)), some (.inl l1), some (.inl l2), some (.inl l3), some (.inr (.inr l4)), some (.inl l5), some (.inl x6), none, none, none, none, none, none] → K3 (x6, σ) → W p l e rm_X12_broken s m args below meth c H locs 0 0 (MQ below (va_Qi Qx (fun u t => Pw G D tc b0 u t) (AA b0)) args s 0 0 (AA b0)) (F0 m 3 ls [])) (hS : va_S (AA b0) s.heap H locs) (hW : Wd G D tc b0 σ H) (hl : hL b0 ls 13 [some (.inr (.inr l0)), some (.inl l1), some (.inl l2), some (.inl l3), some (.inr (.inr l4)), some (.inl l5), some (.inl l6), some (.inl l7), some (.inl l8), some (.inl l9), none, none, none]) (h : X_X12_broken_252 G Qx K3 l0 l1 l2 l3 l4 l5 l6 l7 l8 l9  σ) : W p l e rm_X12_broken s m args below meth c H locs 0 0 (MQ below (va_Qi Qx (fun u t => Pw G D tc b0 u t) (AA b0)) args s 0 0 (AA b0)) (F0 m 252 ls []) := by
  have hx := C.1
  have hb := C.2.1
  unfold X_X12_broken_252 at h
  refine lv_iconst (v := (0 : Int32)) hx hb dX12_broken_252 (by decide) ?_
  exact t_X12_broken_253 C hr hK3 hS hW (hl.keep [true, true, true, true, true, true, true, true, true, true, false, false, false] rfl) h
set_option maxRecDepth 20000 in
set_option maxHeartbeats 4000000 in
theorem t_X12_broken_207 {p : Program} {l : Launch} {e : Env} {s : State} {m : MethodId} {args : Array Value} {below : List Frame} {meth : Method} {c : Code} {H : Heap} {locs : List Loc} {D : va_G} {tc : Nat → ClassId} {b0 : Nat} {ls : Array Slot} {G : Lay} {Qx : Int32 → Mem → Prop} {l0 : Nat} {l1 : Int32} {l2 : Int32} {l3 : Int32} {l4 : Nat} {l5 : Int32} {l6 : Int32} {l7 : Int32} {l8 : Int32}  {K3 : Int32 × Mem → Prop} {σ : Mem} (C : Cx p s m args meth c cX12_broken RX12 13 D tc b0) (hr : meth.sig.returnType = (some FieldType.boolean)) (hK3 : ∀ (x6 : Int32) (σ : Mem) (H : Heap) (locs : List Loc) (ls : Array Slot), va_S (AA b0) s.heap H locs → Wd G D tc b0 σ H → hL b0 ls 13 [some (.inr (.inr l0)), some (.inl l1), some (.inl l2), some (.inl l3), some (.inr (.inr l4)), some (.inl l5), some (.inl x6), none, none, none, none, none, none] → K3 (x6, σ) → W p l e rm_X12_broken s m args below meth c H locs 0 0 (MQ below (va_Qi Qx (fun u t => Pw G D tc b0 u t) (AA b0)) args s 0 0 (AA b0)) (F0 m 3 ls [])) (hS : va_S (AA b0) s.heap H locs) (hW : Wd G D tc b0 σ H) (hl : hL b0 ls 13 [some (.inr (.inr l0)), some (.inl l1), some (.inl l2), some (.inl l3), some (.inr (.inr l4)), some (.inl l5), some (.inl l6), some (.inl l7), some (.inl l8), none, none, none, none]) (h : X_X12_broken_207 G Qx K3 l0 l1 l2 l3 l4 l5 l6 l7 l8  σ) : W p l e rm_X12_broken s m args below meth c H locs 0 0 (MQ below (va_Qi Qx (fun u t => Pw G D tc b0 u t) (AA b0)) args s 0 0 (AA b0)) (F0 m 207 ls []) := by
  have hx := C.1
  have hb := C.2.1
  unfold X_X12_broken_207 at h
  refine x_aload_n C hl dX12_broken_207 rfl ?_
  have t1 := h.1
  replace h := h.2
  refine x_get C hW (t := 12) (k := 9) t1 kl_12 (by decide) fl_X12_32 (v := rv b0 (mR σ l0 9)) rfl dX12_broken_208 ?_
  refine x_iload C hl dX12_broken_211 rfl ?_
  have t2 := h.1
  replace h := h.2
  have v3 := h.1
  replace h := h.2
  refine x_iald C hW t2 v3 dX12_broken_213 ?_
  refine lv_iconst (v := (4 : Int32)) hx hb dX12_broken_214 (by decide) ?_
  refine lv_icmp_ne hx hb dX12_broken_215 (tgt := 331) rfl (fun hc => ?_) (fun hc => ?_)
  · replace h := h.2 hc
    exact t_X12_broken_331 C hr hK3 hS hW (hl.keep [true, true, true, true, true, true, true, false, false, false, false, false, false] rfl) h
  · replace h := h.1 hc
    refine x_iload C hl dX12_broken_218 rfl ?_
    refine lv_if_eq hx hb dX12_broken_220 (tgt := 331) rfl (fun hc => ?_) (fun hc => ?_)
    · replace h := h.1 hc
      exact t_X12_broken_331 C hr hK3 hS hW (hl.keep [true, true, true, true, true, true, true, false, false, false, false, false, false] rfl) h
    · replace h := h.2 hc
      refine x_aload_n C hl dX12_broken_223 rfl ?_
      refine x_aload_n C hl dX12_broken_224 rfl ?_
      refine x_get C hW (t := 12) (k := 10) t1 kl_12 (by decide) fl_X12_35 (v := rv b0 (mR σ l0 10)) rfl dX12_broken_225 ?_
      refine x_iload C hl dX12_broken_228 rfl ?_
      have t4 := h.1
      replace h := h.2
      have v5 := h.1
      replace h := h.2
      refine x_iald C hW t4 v5 dX12_broken_230 ?_
      refine y_i (x_run (As := [.int (mI σ (mR σ l0 10) l7.toNatClampNeg)]) C hW hS (T_X12_rootOf l l0 (mI σ (mR σ l0 10) l7.toNatClampNeg) σ _ h) t1 kl_12 (CW.of yv_X12_rootOf ml_X12_353) ⟨rfl, rfl, ⟨by decide, by decide⟩, by decide, by decide⟩ rfl hl.1 rfl (by decide) dX12_broken_231) hS (fun w7 s6 H locs h hW hS => ?_)
      refine x_istore C hl dX12_broken_234 (by decide) rfl (fun ls hl => ?_)
      refine x_iload C hl dX12_broken_236 rfl ?_
      refine x_iload_n C hl dX12_broken_238 rfl ?_
      refine lv_icmp_ne hx hb dX12_broken_239 (tgt := 252) rfl (fun hc => ?_) (fun hc => ?_)
      · replace h := h.2 hc
        exact t_X12_broken_252 C hr hK3 hS hW (hl.keep [true, true, true, true, true, true, true, true, true, true, false, false, false] rfl) h
      · replace h := h.1 hc
        refine x_iload C hl dX12_broken_242 rfl ?_
        refine x_iload_n C hl dX12_broken_244 rfl ?_
        refine lv_icmp_ne hx hb dX12_broken_245 (tgt := 252) rfl (fun hc => ?_) (fun hc => ?_)
        · replace h := h.2 hc
          exact t_X12_broken_252 C hr hK3 hS hW (hl.keep [true, true, true, true, true, true, true, true, true, true, false, false, false] rfl) h
        · replace h := h.1 hc
          refine lv_iconst (v := (1 : Int32)) hx hb dX12_broken_248 (by decide) ?_
          refine lv_goto hx hb dX12_broken_249 (tgt := 253) rfl ?_
          exact t_X12_broken_253 C hr hK3 hS hW (hl.keep [true, true, true, true, true, true, true, true, true, true, false, false, false] rfl) h
set_option maxRecDepth 20000 in
set_option maxHeartbeats 4000000 in
theorem t_X12_broken_109_n {p : Program} {l : Launch} {e : Env} {s : State} {m : MethodId} {args : Array Value} {below : List Frame} {meth : Method} {c : Code} {D : va_G} {tc : Nat → ClassId} {b0 : Nat} {G : Lay} {Qx : Int32 → Mem → Prop} {l0 : Nat} {l1 : Int32} {l2 : Int32} {l3 : Int32} {l4 : Nat} {l5 : Int32} {l6 : Int32} {l7 : Int32} {l8 : Int32} {K3 : Int32 × Mem → Prop} (C : Cx p s m args meth c cX12_broken RX12 13 D tc b0) (hr : meth.sig.returnType = (some FieldType.boolean)) (hK3 : ∀ (x6 : Int32) (σ : Mem) (H : Heap) (locs : List Loc) (ls : Array Slot), va_S (AA b0) s.heap H locs → Wd G D tc b0 σ H → hL b0 ls 13 [some (.inr (.inr l0)), some (.inl l1), some (.inl l2), some (.inl l3), some (.inr (.inr l4)), some (.inl l5), some (.inl x6), none, none, none, none, none, none] → K3 (x6, σ) → W p l e rm_X12_broken s m args below meth c H locs 0 0 (MQ below (va_Qi Qx (fun u t => Pw G D tc b0 u t) (AA b0)) args s 0 0 (AA b0)) (F0 m 3 ls [])) (n : Nat) : ∀ (l9 : Int32) (σ : Mem) (H : Heap) (locs : List Loc) (ls : Array Slot), va_S (AA b0) s.heap H locs → Wd G D tc b0 σ H → hL b0 ls 13 [some (.inr (.inr l0)), some (.inl l1), some (.inl l2), some (.inl l3), some (.inr (.inr l4)), some (.inl l5), some (.inl l6), some (.inl l7), some (.inl l8), some (.inl l9), none, none, none] → Lp (X_X12_broken_109_s G Qx K3 l0 l1 l2 l3 l4 l5 l6 l7 l8) n (l9, σ) → W p l e rm_X12_broken s m args below meth c H locs 0 0 (MQ below (va_Qi Qx (fun u t => Pw G D tc b0 u t) (AA b0)) args s 0 0 (AA b0)) (F0 m 109 ls []) := by
  have hx := C.1
  have hb := C.2.1
  induction n with
  | zero => intro l9 σ H locs ls hS hW hl h; exact False.elim h
  | succ n hK109 =>
    intro l9 σ H locs ls hS hW hl h
    replace h : X_X12_broken_109_s G Qx K3 l0 l1 l2 l3 l4 l5 l6 l7 l8 (Lp (X_X12_broken_109_s G Qx K3 l0 l1 l2 l3 l4 l5 l6 l7 l8) n) (l9, σ) := h
    unfold X_X12_broken_109_s at h
    refine x_iload C hl dX12_broken_109 rfl ?_
    refine x_aload_n C hl dX12_broken_111 rfl ?_
    have t1 := h.1
    replace h := h.2
    refine x_get C hW (t := 12) (k := 26) t1 kl_12 (by decide) fl_X12_344 (v := .int (mI σ l0 26)) rfl dX12_broken_112 ?_
    refine lv_icmp_ge hx hb dX12_broken_115 (tgt := 207) rfl (fun hc => ?_) (fun hc => ?_)
    · replace h := h.1 hc
      exact t_X12_broken_207 C hr hK3 hS hW (hl.keep [true, true, true, true, true, true, true, true, true, false, false, false, false] rfl) h
    · replace h := h.2 hc
      refine x_aload_n C hl dX12_broken_118 rfl ?_
      refine x_get C hW (t := 12) (k := 27) t1 kl_12 (by decide) fl_X12_77 (v := rv b0 (mR σ l0 27)) rfl dX12_broken_119 ?_
      refine x_iload C hl dX12_broken_122 rfl ?_
      have t2 := h.1
      replace h := h.2
      have v3 := h.1
      replace h := h.2
      refine x_iald C hW t2 v3 dX12_broken_124 ?_
      refine x_iload_n C hl dX12_broken_125 rfl ?_
      refine lv_icmp_ne hx hb dX12_broken_126 (tgt := 144) rfl (fun hc => ?_) (fun hc => ?_)
      · replace h := h.2 hc
        exact t_X12_broken_144 C hr hK3 hK109 hS hW (hl.keep [true, true, true, true, true, true, true, true, true, true, false, false, false] rfl) h
      · replace h := h.1 hc
        refine x_aload_n C hl dX12_broken_129 rfl ?_
        refine x_get C hW (t := 12) (k := 28) t1 kl_12 (by decide) fl_X12_80 (v := rv b0 (mR σ l0 28)) rfl dX12_broken_130 ?_
        refine x_iload C hl dX12_broken_133 rfl ?_
        have t4 := h.1
        replace h := h.2
        have v5 := h.1
        replace h := h.2
        refine x_iald C hW t4 v5 dX12_broken_135 ?_
        refine x_iload_n C hl dX12_broken_136 rfl ?_
        refine lv_icmp_ne hx hb dX12_broken_137 (tgt := 144) rfl (fun hc => ?_) (fun hc => ?_)
        · replace h := h.2 hc
          exact t_X12_broken_144 C hr hK3 hK109 hS hW (hl.keep [true, true, true, true, true, true, true, true, true, true, false, false, false] rfl) h
        · replace h := h.1 hc
          refine lv_iconst (v := (1 : Int32)) hx hb dX12_broken_140 (by decide) ?_
          refine lv_goto hx hb dX12_broken_141 (tgt := 145) rfl ?_
          exact t_X12_broken_145 C hr hK3 hK109 hS hW (hl.keep [true, true, true, true, true, true, true, true, true, true, false, false, false] rfl) h
set_option maxRecDepth 20000 in
set_option maxHeartbeats 4000000 in
theorem t_X12_broken_109 {p : Program} {l : Launch} {e : Env} {s : State} {m : MethodId} {args : Array Value} {below : List Frame} {meth : Method} {c : Code} {H : Heap} {locs : List Loc} {D : va_G} {tc : Nat → ClassId} {b0 : Nat} {ls : Array Slot} {G : Lay} {Qx : Int32 → Mem → Prop} {l0 : Nat} {l1 : Int32} {l2 : Int32} {l3 : Int32} {l4 : Nat} {l5 : Int32} {l6 : Int32} {l7 : Int32} {l8 : Int32} {l9 : Int32}  {K3 : Int32 × Mem → Prop} {σ : Mem} (C : Cx p s m args meth c cX12_broken RX12 13 D tc b0) (hr : meth.sig.returnType = (some FieldType.boolean)) (hK3 : ∀ (x6 : Int32) (σ : Mem) (H : Heap) (locs : List Loc) (ls : Array Slot), va_S (AA b0) s.heap H locs → Wd G D tc b0 σ H → hL b0 ls 13 [some (.inr (.inr l0)), some (.inl l1), some (.inl l2), some (.inl l3), some (.inr (.inr l4)), some (.inl l5), some (.inl x6), none, none, none, none, none, none] → K3 (x6, σ) → W p l e rm_X12_broken s m args below meth c H locs 0 0 (MQ below (va_Qi Qx (fun u t => Pw G D tc b0 u t) (AA b0)) args s 0 0 (AA b0)) (F0 m 3 ls [])) (hS : va_S (AA b0) s.heap H locs) (hW : Wd G D tc b0 σ H) (hl : hL b0 ls 13 [some (.inr (.inr l0)), some (.inl l1), some (.inl l2), some (.inl l3), some (.inr (.inr l4)), some (.inl l5), some (.inl l6), some (.inl l7), some (.inl l8), some (.inl l9), none, none, none]) (h : X_X12_broken_109 G Qx K3 l0 l1 l2 l3 l4 l5 l6 l7 l8 l9 σ) : W p l e rm_X12_broken s m args below meth c H locs 0 0 (MQ below (va_Qi Qx (fun u t => Pw G D tc b0 u t) (AA b0)) args s 0 0 (AA b0)) (F0 m 109 ls []) := by
  obtain ⟨n, h⟩ := h
  exact t_X12_broken_109_n C hr hK3 n l9 σ H locs ls hS hW hl h
set_option maxRecDepth 20000 in
set_option maxHeartbeats 4000000 in
theorem t_X12_broken_83 {p : Program} {l : Launch} {e : Env} {s : State} {m : MethodId} {args : Array Value} {below : List Frame} {meth : Method} {c : Code} {H : Heap} {locs : List Loc} {D : va_G} {tc : Nat → ClassId} {b0 : Nat} {ls : Array Slot} {G : Lay} {Qx : Int32 → Mem → Prop} {l0 : Nat} {l1 : Int32} {l2 : Int32} {l3 : Int32} {l4 : Nat} {l5 : Int32} {l6 : Int32} {l7 : Int32} {l8 : Int32}  {K3 : Int32 × Mem → Prop} {σ : Mem} (C : Cx p s m args meth c cX12_broken RX12 13 D tc b0) (hr : meth.sig.returnType = (some FieldType.boolean)) (hK3 : ∀ (x6 : Int32) (σ : Mem) (H : Heap) (locs : List Loc) (ls : Array Slot), va_S (AA b0) s.heap H locs → Wd G D tc b0 σ H → hL b0 ls 13 [some (.inr (.inr l0)), some (.inl l1), some (.inl l2), some (.inl l3), some (.inr (.inr l4)), some (.inl l5), some (.inl x6), none, none, none, none, none, none] → K3 (x6, σ) → W p l e rm_X12_broken s m args below meth c H locs 0 0 (MQ below (va_Qi Qx (fun u t => Pw G D tc b0 u t) (AA b0)) args s 0 0 (AA b0)) (F0 m 3 ls [])) (hS : va_S (AA b0) s.heap H locs) (hW : Wd G D tc b0 σ H) (hl : hL b0 ls 13 [some (.inr (.inr l0)), some (.inl l1), some (.inl l2), some (.inl l3), some (.inr (.inr l4)), some (.inl l5), some (.inl l6), some (.inl l7), some (.inl l8), none, none, none, none]) (h : X_X12_broken_83 G Qx K3 l0 l1 l2 l3 l4 l5 l6 l7 l8  σ) : W p l e rm_X12_broken s m args below meth c H locs 0 0 (MQ below (va_Qi Qx (fun u t => Pw G D tc b0 u t) (AA b0)) args s 0 0 (AA b0)) (F0 m 83 ls []) := by
  have hx := C.1
  have hb := C.2.1
  unfold X_X12_broken_83 at h
  refine x_aload_n C hl dX12_broken_83 rfl ?_
  have t1 := h.1
  replace h := h.2
  refine x_get C hW (t := 12) (k := 9) t1 kl_12 (by decide) fl_X12_32 (v := rv b0 (mR σ l0 9)) rfl dX12_broken_84 ?_
  refine x_iload C hl dX12_broken_87 rfl ?_
  have t2 := h.1
  replace h := h.2
  have v3 := h.1
  replace h := h.2
  refine x_iald C hW t2 v3 dX12_broken_89 ?_
  refine lv_iconst (v := (4 : Int32)) hx hb dX12_broken_90 (by decide) ?_
  refine lv_icmp_ge hx hb dX12_broken_91 (tgt := 207) rfl (fun hc => ?_) (fun hc => ?_)
  · replace h := h.1 hc
    exact t_X12_broken_207 C hr hK3 hS hW (hl.keep [true, true, true, true, true, true, true, true, true, false, false, false, false] rfl) h
  · replace h := h.2 hc
    refine x_aload_n C hl dX12_broken_94 rfl ?_
    refine x_get C hW (t := 12) (k := 13) t1 kl_12 (by decide) fl_X12_44 (v := rv b0 (mR σ l0 13)) rfl dX12_broken_95 ?_
    refine x_iload C hl dX12_broken_98 rfl ?_
    have t4 := h.1
    replace h := h.2
    have v5 := h.1
    replace h := h.2
    refine x_iald C hW t4 v5 dX12_broken_100 ?_
    refine lv_iconst (v := (1 : Int32)) hx hb dX12_broken_101 (by decide) ?_
    refine lv_iand hx hb dX12_broken_102 ?_
    refine lv_if_eq hx hb dX12_broken_103 (tgt := 207) rfl (fun hc => ?_) (fun hc => ?_)
    · replace h := h.1 hc
      exact t_X12_broken_207 C hr hK3 hS hW (hl.keep [true, true, true, true, true, true, true, true, true, false, false, false, false] rfl) h
    · replace h := h.2 hc
      refine lv_iconst (v := (0 : Int32)) hx hb dX12_broken_106 (by decide) ?_
      refine x_istore C hl dX12_broken_107 (by decide) rfl (fun ls hl => ?_)
      exact t_X12_broken_109 C hr hK3 hS hW (hl.keep [true, true, true, true, true, true, true, true, true, true, false, false, false] rfl) h
set_option maxRecDepth 20000 in
set_option maxHeartbeats 4000000 in
theorem t_X12_broken_3_n {p : Program} {l : Launch} {e : Env} {s : State} {m : MethodId} {args : Array Value} {below : List Frame} {meth : Method} {c : Code} {D : va_G} {tc : Nat → ClassId} {b0 : Nat} {G : Lay} {Qx : Int32 → Mem → Prop} {l0 : Nat} {l1 : Int32} {l2 : Int32} {l3 : Int32} {l4 : Nat} {l5 : Int32} (C : Cx p s m args meth c cX12_broken RX12 13 D tc b0) (hr : meth.sig.returnType = (some FieldType.boolean)) (n : Nat) : ∀ (l6 : Int32) (σ : Mem) (H : Heap) (locs : List Loc) (ls : Array Slot), va_S (AA b0) s.heap H locs → Wd G D tc b0 σ H → hL b0 ls 13 [some (.inr (.inr l0)), some (.inl l1), some (.inl l2), some (.inl l3), some (.inr (.inr l4)), some (.inl l5), some (.inl l6), none, none, none, none, none, none] → Lp (X_X12_broken_3_s G Qx l0 l1 l2 l3 l4 l5) n (l6, σ) → W p l e rm_X12_broken s m args below meth c H locs 0 0 (MQ below (va_Qi Qx (fun u t => Pw G D tc b0 u t) (AA b0)) args s 0 0 (AA b0)) (F0 m 3 ls []) := by
  have hx := C.1
  have hb := C.2.1
  induction n with
  | zero => intro l6 σ H locs ls hS hW hl h; exact False.elim h
  | succ n hK3 =>
    intro l6 σ H locs ls hS hW hl h
    replace h : X_X12_broken_3_s G Qx l0 l1 l2 l3 l4 l5 (Lp (X_X12_broken_3_s G Qx l0 l1 l2 l3 l4 l5) n) (l6, σ) := h
    unfold X_X12_broken_3_s at h
    refine x_iload C hl dX12_broken_3 rfl ?_
    refine x_aload_n C hl dX12_broken_5 rfl ?_
    have t1 := h.1
    replace h := h.2
    refine x_get C hW (t := 12) (k := 6) t1 kl_12 (by decide) fl_X12_23 (v := rv b0 (mR σ l0 6)) rfl dX12_broken_6 ?_
    refine x_iload_n C hl dX12_broken_9 rfl ?_
    have t2 := h.1
    replace h := h.2
    have v3 := h.1
    replace h := h.2
    refine x_iald C hW t2 v3 dX12_broken_10 ?_
    refine lv_icmp_ge hx hb dX12_broken_11 (tgt := 337) rfl (fun hc => ?_) (fun hc => ?_)
    · replace h := h.1 hc
      refine lv_iconst (v := (0 : Int32)) hx hb dX12_broken_337 (by decide) ?_
      exact r_z C hr hW hS h.1 h.2 dX12_broken_338
    · replace h := h.2 hc
      refine lv_bipush (v := (16 : Int32)) hx hb dX12_broken_14 (by decide) ?_
      refine x_iload_n C hl dX12_broken_16 rfl ?_
      refine lv_imul hx hb dX12_broken_17 ?_
      refine x_iload C hl dX12_broken_18 rfl ?_
      refine lv_iadd hx hb dX12_broken_20 ?_
      refine x_istore C hl dX12_broken_21 (by decide) rfl (fun ls hl => ?_)
      refine x_aload C hl dX12_broken_23 rfl ?_
      refine x_iload C hl dX12_broken_25 rfl ?_
      refine x_iload C hl dX12_broken_27 rfl ?_
      refine lv_iadd hx hb dX12_broken_29 ?_
      have t4 := h.1
      replace h := h.2
      have v5 := h.1
      replace h := h.2
      refine x_iald C hW t4 v5 dX12_broken_30 ?_
      refine x_istore C hl dX12_broken_31 (by decide) rfl (fun ls hl => ?_)
      refine x_aload_n C hl dX12_broken_33 rfl ?_
      refine x_get C hW (t := 12) (k := 9) t1 kl_12 (by decide) fl_X12_32 (v := rv b0 (mR σ l0 9)) rfl dX12_broken_34 ?_
      refine x_iload C hl dX12_broken_37 rfl ?_
      have t6 := h.1
      replace h := h.2
      have v7 := h.1
      replace h := h.2
      refine x_iald C hW t6 v7 dX12_broken_39 ?_
      refine lv_iconst (v := (5 : Int32)) hx hb dX12_broken_40 (by decide) ?_
      refine lv_icmp_ne hx hb dX12_broken_41 (tgt := 47) rfl (fun hc => ?_) (fun hc => ?_)
      · replace h := h.2 hc
        refine x_aload_n C hl dX12_broken_47 rfl ?_
        refine x_get C hW (t := 12) (k := 9) t1 kl_12 (by decide) fl_X12_32 (v := rv b0 (mR σ l0 9)) rfl dX12_broken_48 ?_
        refine x_iload C hl dX12_broken_51 rfl ?_
        refine x_iald C hW t6 v7 dX12_broken_53 ?_
        refine lv_iconst (v := (4 : Int32)) hx hb dX12_broken_54 (by decide) ?_
        refine lv_icmp_ne hx hb dX12_broken_55 (tgt := 83) rfl (fun hc => ?_) (fun hc => ?_)
        · replace h := h.2 hc
          exact t_X12_broken_83 C hr hK3 hS hW (hl.keep [true, true, true, true, true, true, true, true, true, false, false, false, false] rfl) h
        · replace h := h.1 hc
          refine x_aload_n C hl dX12_broken_58 rfl ?_
          refine x_get C hW (t := 12) (k := 13) t1 kl_12 (by decide) fl_X12_44 (v := rv b0 (mR σ l0 13)) rfl dX12_broken_59 ?_
          refine x_iload C hl dX12_broken_62 rfl ?_
          have t8 := h.1
          replace h := h.2
          have v9 := h.1
          replace h := h.2
          refine x_iald C hW t8 v9 dX12_broken_64 ?_
          refine lv_iconst (v := (2 : Int32)) hx hb dX12_broken_65 (by decide) ?_
          refine lv_iand hx hb dX12_broken_66 ?_
          refine lv_if_eq hx hb dX12_broken_67 (tgt := 83) rfl (fun hc => ?_) (fun hc => ?_)
          · replace h := h.1 hc
            exact t_X12_broken_83 C hr hK3 hS hW (hl.keep [true, true, true, true, true, true, true, true, true, false, false, false, false] rfl) h
          · replace h := h.2 hc
            refine x_iload C hl dX12_broken_70 rfl ?_
            refine lv_if_ne hx hb dX12_broken_72 (tgt := 83) rfl (fun hc => ?_) (fun hc => ?_)
            · replace h := h.2 hc
              exact t_X12_broken_83 C hr hK3 hS hW (hl.keep [true, true, true, true, true, true, true, true, true, false, false, false, false] rfl) h
            · replace h := h.1 hc
              refine x_aload_n C hl dX12_broken_75 rfl ?_
              refine x_iload C hl dX12_broken_76 rfl ?_
              refine lv_iconst (v := (0 : Int32)) hx hb dX12_broken_78 (by decide) ?_
              refine y_i (x_run (As := [.int l6, .int (0 : Int32)]) C hW hS (T_X12_breaks l l0 l6 (0 : Int32) σ _ h) t1 kl_12 (CW.of yv_X12_breaks ml_X12_362) ⟨rfl, rfl, ⟨by decide, by decide⟩, by decide, by decide⟩ rfl hl.1 rfl (by decide) dX12_broken_79) hS (fun w11 s10 H locs h hW hS => ?_)
              exact r_z C hr hW hS h.1 h.2 dX12_broken_82
      · replace h := h.1 hc
        refine lv_goto hx hb dX12_broken_44 (tgt := 331) rfl ?_
        exact t_X12_broken_331 C hr hK3 hS hW (hl.keep [true, true, true, true, true, true, true, false, false, false, false, false, false] rfl) h
set_option maxRecDepth 20000 in
set_option maxHeartbeats 4000000 in
theorem t_X12_broken_3 {p : Program} {l : Launch} {e : Env} {s : State} {m : MethodId} {args : Array Value} {below : List Frame} {meth : Method} {c : Code} {H : Heap} {locs : List Loc} {D : va_G} {tc : Nat → ClassId} {b0 : Nat} {ls : Array Slot} {G : Lay} {Qx : Int32 → Mem → Prop} {l0 : Nat} {l1 : Int32} {l2 : Int32} {l3 : Int32} {l4 : Nat} {l5 : Int32} {l6 : Int32}  {σ : Mem} (C : Cx p s m args meth c cX12_broken RX12 13 D tc b0) (hr : meth.sig.returnType = (some FieldType.boolean)) (hS : va_S (AA b0) s.heap H locs) (hW : Wd G D tc b0 σ H) (hl : hL b0 ls 13 [some (.inr (.inr l0)), some (.inl l1), some (.inl l2), some (.inl l3), some (.inr (.inr l4)), some (.inl l5), some (.inl l6), none, none, none, none, none, none]) (h : X_X12_broken_3 G Qx l0 l1 l2 l3 l4 l5 l6 σ) : W p l e rm_X12_broken s m args below meth c H locs 0 0 (MQ below (va_Qi Qx (fun u t => Pw G D tc b0 u t) (AA b0)) args s 0 0 (AA b0)) (F0 m 3 ls []) := by
  obtain ⟨n, h⟩ := h
  exact t_X12_broken_3_n C hr n l6 σ H locs ls hS hW hl h
set_option maxRecDepth 20000 in
set_option maxHeartbeats 4000000 in
theorem t_X12_broken_0 {p : Program} {l : Launch} {e : Env} {s : State} {m : MethodId} {args : Array Value} {below : List Frame} {meth : Method} {c : Code} {H : Heap} {locs : List Loc} {D : va_G} {tc : Nat → ClassId} {b0 : Nat} {ls : Array Slot} {G : Lay} {Qx : Int32 → Mem → Prop} {l0 : Nat} {l1 : Int32} {l2 : Int32} {l3 : Int32} {l4 : Nat} {l5 : Int32}  {σ : Mem} (C : Cx p s m args meth c cX12_broken RX12 13 D tc b0) (hr : meth.sig.returnType = (some FieldType.boolean)) (hS : va_S (AA b0) s.heap H locs) (hW : Wd G D tc b0 σ H) (hl : hL b0 ls 13 [some (.inr (.inr l0)), some (.inl l1), some (.inl l2), some (.inl l3), some (.inr (.inr l4)), some (.inl l5), none, none, none, none, none, none, none]) (h : X_X12_broken_0 G Qx l0 l1 l2 l3 l4 l5  σ) : W p l e rm_X12_broken s m args below meth c H locs 0 0 (MQ below (va_Qi Qx (fun u t => Pw G D tc b0 u t) (AA b0)) args s 0 0 (AA b0)) (F0 m 0 ls []) := by
  have hx := C.1
  have hb := C.2.1
  unfold X_X12_broken_0 at h
  refine lv_iconst (v := (0 : Int32)) hx hb dX12_broken_0 (by decide) ?_
  refine x_istore C hl dX12_broken_1 (by decide) rfl (fun ls hl => ?_)
  exact t_X12_broken_3 C hr hS hW (hl.keep [true, true, true, true, true, true, true, false, false, false, false, false, false] rfl) h
theorem T_X12_broken (l : Launch) {G : Lay} {D : va_G} {tc : Nat → ClassId} {b0 : Nat} (l0 : Nat) (l1 : Int32) (l2 : Int32) (l3 : Int32) (l4 : Nat) (l5 : Int32) (σ : Mem) (Qx : Int32 → Mem → Prop) (h : X_X12_broken G Qx l0 l1 l2 l3 l4 l5 σ) : MI l yX12_broken cX12_broken 13 ((some FieldType.boolean)) rm_X12_broken G D tc b0 [rv b0 l0, .int l1, .int l2, .int l3, rv b0 l4, .int l5] σ Qx :=
  x_entry (y := yX12_broken) [.inr (.inr l0), .inl l1, .inl l2, .inl l3, .inr (.inr l4), .inl l5] 7 (by decide) (Nat.le_of_ble_eq_true rfl) (fun p e s m args below meth c ls C hr hW hl => t_X12_broken_0 C hr va_S.rf hW (hl.keep [true, true, true, true, true, true, false, false, false, false, false, false, false] rfl) h)
/-! X12_leads -/
set_option maxRecDepth 20000 in
set_option maxHeartbeats 4000000 in
theorem t_X12_leads_78 {p : Program} {l : Launch} {e : Env} {s : State} {m : MethodId} {args : Array Value} {below : List Frame} {meth : Method} {c : Code} {H : Heap} {locs : List Loc} {D : va_G} {tc : Nat → ClassId} {b0 : Nat} {ls : Array Slot} {G : Lay} {Qx : Int32 → Mem → Prop} {l0 : Nat} {l1 : Int32} {l2 : Int32} {l3 : Int32} {l4 : Int32} {l5 : Int32}  {K11 : Int32 × Mem → Prop} {σ : Mem} (C : Cx p s m args meth c cX12_leads RX12 7 D tc b0) (hr : meth.sig.returnType = (some FieldType.int)) (hK11 : ∀ (x5 : Int32) (σ : Mem) (H : Heap) (locs : List Loc) (ls : Array Slot), va_S (AA b0) s.heap H locs → Wd G D tc b0 σ H → hL b0 ls 7 [some (.inr (.inr l0)), some (.inl l1), some (.inl l2), some (.inl l3), some (.inl l4), some (.inl x5), none] → K11 (x5, σ) → W p l e rm_X12_leads s m args below meth c H locs 0 0 (MQ below (va_Qi Qx (fun u t => Pw G D tc b0 u t) (AA b0)) args s 0 0 (AA b0)) (F0 m 11 ls [])) (hS : va_S (AA b0) s.heap H locs) (hW : Wd G D tc b0 σ H) (hl : hL b0 ls 7 [some (.inr (.inr l0)), some (.inl l1), some (.inl l2), some (.inl l3), some (.inl l4), some (.inl l5), none]) (h : X_X12_leads_78 G Qx K11 l0 l1 l2 l3 l4 l5  σ) : W p l e rm_X12_leads s m args below meth c H locs 0 0 (MQ below (va_Qi Qx (fun u t => Pw G D tc b0 u t) (AA b0)) args s 0 0 (AA b0)) (F0 m 78 ls []) := by
  have hx := C.1
  have hb := C.2.1
  unfold X_X12_leads_78 at h
  refine x_iinc C hl dX12_leads_78 rfl (v := (1 : Int32)) (by decide) (by decide) rfl (fun ls hl => ?_)
  refine lv_goto hx hb dX12_leads_81 (tgt := 11) rfl ?_
  exact hK11 _ _ _ _ _ hS hW (hl.keep [true, true, true, true, true, true, false] rfl) h
set_option maxRecDepth 20000 in
set_option maxHeartbeats 4000000 in
theorem t_X12_leads_11_n {p : Program} {l : Launch} {e : Env} {s : State} {m : MethodId} {args : Array Value} {below : List Frame} {meth : Method} {c : Code} {D : va_G} {tc : Nat → ClassId} {b0 : Nat} {G : Lay} {Qx : Int32 → Mem → Prop} {l0 : Nat} {l1 : Int32} {l2 : Int32} {l3 : Int32} {l4 : Int32} (C : Cx p s m args meth c cX12_leads RX12 7 D tc b0) (hr : meth.sig.returnType = (some FieldType.int)) (n : Nat) : ∀ (l5 : Int32) (σ : Mem) (H : Heap) (locs : List Loc) (ls : Array Slot), va_S (AA b0) s.heap H locs → Wd G D tc b0 σ H → hL b0 ls 7 [some (.inr (.inr l0)), some (.inl l1), some (.inl l2), some (.inl l3), some (.inl l4), some (.inl l5), none] → Lp (X_X12_leads_11_s G Qx l0 l1 l2 l3 l4) n (l5, σ) → W p l e rm_X12_leads s m args below meth c H locs 0 0 (MQ below (va_Qi Qx (fun u t => Pw G D tc b0 u t) (AA b0)) args s 0 0 (AA b0)) (F0 m 11 ls []) := by
  have hx := C.1
  have hb := C.2.1
  induction n with
  | zero => intro l5 σ H locs ls hS hW hl h; exact False.elim h
  | succ n hK11 =>
    intro l5 σ H locs ls hS hW hl h
    replace h : X_X12_leads_11_s G Qx l0 l1 l2 l3 l4 (Lp (X_X12_leads_11_s G Qx l0 l1 l2 l3 l4) n) (l5, σ) := h
    unfold X_X12_leads_11_s at h
    refine x_iload C hl dX12_leads_11 rfl ?_
    refine x_aload_n C hl dX12_leads_13 rfl ?_
    have t1 := h.1
    replace h := h.2
    refine x_get C hW (t := 12) (k := 6) t1 kl_12 (by decide) fl_X12_23 (v := rv b0 (mR σ l0 6)) rfl dX12_leads_14 ?_
    refine x_iload C hl dX12_leads_17 rfl ?_
    have t2 := h.1
    replace h := h.2
    have v3 := h.1
    replace h := h.2
    refine x_iald C hW t2 v3 dX12_leads_19 ?_
    refine lv_icmp_ge hx hb dX12_leads_20 (tgt := 84) rfl (fun hc => ?_) (fun hc => ?_)
    · replace h := h.1 hc
      refine lv_iconst (v := (-1 : Int32)) hx hb dX12_leads_84 (by decide) ?_
      exact r_i C hr hW hS h dX12_leads_85
    · replace h := h.2 hc
      refine lv_bipush (v := (16 : Int32)) hx hb dX12_leads_23 (by decide) ?_
      refine x_iload C hl dX12_leads_25 rfl ?_
      refine lv_imul hx hb dX12_leads_27 ?_
      refine x_iload C hl dX12_leads_28 rfl ?_
      refine lv_iadd hx hb dX12_leads_30 ?_
      refine x_istore C hl dX12_leads_31 (by decide) rfl (fun ls hl => ?_)
      refine x_aload_n C hl dX12_leads_33 rfl ?_
      refine x_get C hW (t := 12) (k := 9) t1 kl_12 (by decide) fl_X12_32 (v := rv b0 (mR σ l0 9)) rfl dX12_leads_34 ?_
      refine x_iload C hl dX12_leads_37 rfl ?_
      have t4 := h.1
      replace h := h.2
      have v5 := h.1
      replace h := h.2
      refine x_iald C hW t4 v5 dX12_leads_39 ?_
      refine lv_iconst (v := (4 : Int32)) hx hb dX12_leads_40 (by decide) ?_
      refine lv_icmp_ne hx hb dX12_leads_41 (tgt := 78) rfl (fun hc => ?_) (fun hc => ?_)
      · replace h := h.2 hc
        exact t_X12_leads_78 C hr hK11 hS hW (hl.keep [true, true, true, true, true, true, false] rfl) h
      · replace h := h.1 hc
        refine x_aload_n C hl dX12_leads_44 rfl ?_
        refine x_get C hW (t := 12) (k := 31) t1 kl_12 (by decide) fl_X12_89 (v := rv b0 (mR σ l0 31)) rfl dX12_leads_45 ?_
        refine lv_bipush (v := (16 : Int32)) hx hb dX12_leads_48 (by decide) ?_
        refine x_iload_n C hl dX12_leads_50 rfl ?_
        refine lv_imul hx hb dX12_leads_51 ?_
        refine x_iload C hl dX12_leads_52 rfl ?_
        refine lv_iadd hx hb dX12_leads_54 ?_
        have t6 := h.1
        replace h := h.2
        have v7 := h.1
        replace h := h.2
        refine x_iald C hW t6 v7 dX12_leads_55 ?_
        refine x_iload_n C hl dX12_leads_56 rfl ?_
        refine lv_icmp_ne hx hb dX12_leads_57 (tgt := 78) rfl (fun hc => ?_) (fun hc => ?_)
        · replace h := h.2 hc
          exact t_X12_leads_78 C hr hK11 hS hW (hl.keep [true, true, true, true, true, true, false] rfl) h
        · replace h := h.1 hc
          refine x_aload_n C hl dX12_leads_60 rfl ?_
          refine x_aload_n C hl dX12_leads_61 rfl ?_
          refine x_get C hW (t := 12) (k := 10) t1 kl_12 (by decide) fl_X12_35 (v := rv b0 (mR σ l0 10)) rfl dX12_leads_62 ?_
          refine x_iload C hl dX12_leads_65 rfl ?_
          have t8 := h.1
          replace h := h.2
          have v9 := h.1
          replace h := h.2
          refine x_iald C hW t8 v9 dX12_leads_67 ?_
          refine y_i (x_run (As := [.int (mI σ (mR σ l0 10) (((16 : Int32) * l4) + l5).toNatClampNeg)]) C hW hS (T_X12_rootOf l l0 (mI σ (mR σ l0 10) (((16 : Int32) * l4) + l5).toNatClampNeg) σ _ h) t1 kl_12 (CW.of yv_X12_rootOf ml_X12_353) ⟨rfl, rfl, ⟨by decide, by decide⟩, by decide, by decide⟩ rfl hl.1 rfl (by decide) dX12_leads_68) hS (fun w11 s10 H locs h hW hS => ?_)
          refine x_iload_n C hl dX12_leads_71 rfl ?_
          refine lv_icmp_ne hx hb dX12_leads_72 (tgt := 78) rfl (fun hc => ?_) (fun hc => ?_)
          · replace h := h.2 hc
            exact t_X12_leads_78 C hr hK11 hS hW (hl.keep [true, true, true, true, true, true, false] rfl) h
          · replace h := h.1 hc
            refine x_iload C hl dX12_leads_75 rfl ?_
            exact r_i C hr hW hS h dX12_leads_77
set_option maxRecDepth 20000 in
set_option maxHeartbeats 4000000 in
theorem t_X12_leads_11 {p : Program} {l : Launch} {e : Env} {s : State} {m : MethodId} {args : Array Value} {below : List Frame} {meth : Method} {c : Code} {H : Heap} {locs : List Loc} {D : va_G} {tc : Nat → ClassId} {b0 : Nat} {ls : Array Slot} {G : Lay} {Qx : Int32 → Mem → Prop} {l0 : Nat} {l1 : Int32} {l2 : Int32} {l3 : Int32} {l4 : Int32} {l5 : Int32}  {σ : Mem} (C : Cx p s m args meth c cX12_leads RX12 7 D tc b0) (hr : meth.sig.returnType = (some FieldType.int)) (hS : va_S (AA b0) s.heap H locs) (hW : Wd G D tc b0 σ H) (hl : hL b0 ls 7 [some (.inr (.inr l0)), some (.inl l1), some (.inl l2), some (.inl l3), some (.inl l4), some (.inl l5), none]) (h : X_X12_leads_11 G Qx l0 l1 l2 l3 l4 l5 σ) : W p l e rm_X12_leads s m args below meth c H locs 0 0 (MQ below (va_Qi Qx (fun u t => Pw G D tc b0 u t) (AA b0)) args s 0 0 (AA b0)) (F0 m 11 ls []) := by
  obtain ⟨n, h⟩ := h
  exact t_X12_leads_11_n C hr n l5 σ H locs ls hS hW hl h
set_option maxRecDepth 20000 in
set_option maxHeartbeats 4000000 in
theorem t_X12_leads_0 {p : Program} {l : Launch} {e : Env} {s : State} {m : MethodId} {args : Array Value} {below : List Frame} {meth : Method} {c : Code} {H : Heap} {locs : List Loc} {D : va_G} {tc : Nat → ClassId} {b0 : Nat} {ls : Array Slot} {G : Lay} {Qx : Int32 → Mem → Prop} {l0 : Nat} {l1 : Int32} {l2 : Int32} {l3 : Int32}  {σ : Mem} (C : Cx p s m args meth c cX12_leads RX12 7 D tc b0) (hr : meth.sig.returnType = (some FieldType.int)) (hS : va_S (AA b0) s.heap H locs) (hW : Wd G D tc b0 σ H) (hl : hL b0 ls 7 [some (.inr (.inr l0)), some (.inl l1), some (.inl l2), some (.inl l3), none, none, none]) (h : X_X12_leads_0 G Qx l0 l1 l2 l3  σ) : W p l e rm_X12_leads s m args below meth c H locs 0 0 (MQ below (va_Qi Qx (fun u t => Pw G D tc b0 u t) (AA b0)) args s 0 0 (AA b0)) (F0 m 0 ls []) := by
  have hx := C.1
  have hb := C.2.1
  unfold X_X12_leads_0 at h
  refine x_aload_n C hl dX12_leads_0 rfl ?_
  have t1 := h.1
  replace h := h.2
  refine x_get C hW (t := 12) (k := 29) t1 kl_12 (by decide) fl_X12_83 (v := rv b0 (mR σ l0 29)) rfl dX12_leads_1 ?_
  refine x_iload_n C hl dX12_leads_4 rfl ?_
  have t2 := h.1
  replace h := h.2
  have v3 := h.1
  replace h := h.2
  refine x_iald C hW t2 v3 dX12_leads_5 ?_
  refine x_istore C hl dX12_leads_6 (by decide) rfl (fun ls hl => ?_)
  refine lv_iconst (v := (0 : Int32)) hx hb dX12_leads_8 (by decide) ?_
  refine x_istore C hl dX12_leads_9 (by decide) rfl (fun ls hl => ?_)
  exact t_X12_leads_11 C hr hS hW (hl.keep [true, true, true, true, true, true, false] rfl) h
theorem T_X12_leads (l : Launch) {G : Lay} {D : va_G} {tc : Nat → ClassId} {b0 : Nat} (l0 : Nat) (l1 : Int32) (l2 : Int32) (l3 : Int32) (σ : Mem) (Qx : Int32 → Mem → Prop) (h : X_X12_leads G Qx l0 l1 l2 l3 σ) : MI l yX12_leads cX12_leads 7 ((some FieldType.int)) rm_X12_leads G D tc b0 [rv b0 l0, .int l1, .int l2, .int l3] σ Qx :=
  x_entry (y := yX12_leads) [.inr (.inr l0), .inl l1, .inl l2, .inl l3] 3 (by decide) (Nat.le_of_ble_eq_true rfl) (fun p e s m args below meth c ls C hr hW hl => t_X12_leads_0 C hr va_S.rf hW (hl.keep [true, true, true, true, false, false, false] rfl) h)
/-! X12_leadsTo -/
set_option maxRecDepth 20000 in
set_option maxHeartbeats 4000000 in
theorem t_X12_leadsTo_117 {p : Program} {l : Launch} {e : Env} {s : State} {m : MethodId} {args : Array Value} {below : List Frame} {meth : Method} {c : Code} {H : Heap} {locs : List Loc} {D : va_G} {tc : Nat → ClassId} {b0 : Nat} {ls : Array Slot} {G : Lay} {Qx : Int32 → Mem → Prop} {l0 : Nat} {l1 : Int32} {l2 : Int32} {l3 : Int32} {l4 : Int32}  {K5 : Int32 × Int32 × Mem → Prop} {σ : Mem} (C : Cx p s m args meth c cX12_leadsTo RX12 6 D tc b0) (hr : meth.sig.returnType = (some FieldType.int)) (hK5 : ∀ (x3 : Int32) (x4 : Int32) (σ : Mem) (H : Heap) (locs : List Loc) (ls : Array Slot), va_S (AA b0) s.heap H locs → Wd G D tc b0 σ H → hL b0 ls 6 [some (.inr (.inr l0)), some (.inl l1), some (.inl l2), some (.inl x3), some (.inl x4), none] → K5 (x3, x4, σ) → W p l e rm_X12_leadsTo s m args below meth c H locs 0 0 (MQ below (va_Qi Qx (fun u t => Pw G D tc b0 u t) (AA b0)) args s 0 0 (AA b0)) (F0 m 5 ls [])) (hS : va_S (AA b0) s.heap H locs) (hW : Wd G D tc b0 σ H) (hl : hL b0 ls 6 [some (.inr (.inr l0)), some (.inl l1), some (.inl l2), some (.inl l3), some (.inl l4), none]) (h : X_X12_leadsTo_117 G Qx K5 l0 l1 l2 l3 l4  σ) : W p l e rm_X12_leadsTo s m args below meth c H locs 0 0 (MQ below (va_Qi Qx (fun u t => Pw G D tc b0 u t) (AA b0)) args s 0 0 (AA b0)) (F0 m 117 ls []) := by
  have hx := C.1
  have hb := C.2.1
  unfold X_X12_leadsTo_117 at h
  refine x_iinc C hl dX12_leadsTo_117 rfl (v := (1 : Int32)) (by decide) (by decide) rfl (fun ls hl => ?_)
  refine lv_goto hx hb dX12_leadsTo_120 (tgt := 5) rfl ?_
  exact hK5 _ _ _ _ _ _ hS hW (hl.keep [true, true, true, true, true, false] rfl) h
set_option maxRecDepth 20000 in
set_option maxHeartbeats 4000000 in
theorem t_X12_leadsTo_96 {p : Program} {l : Launch} {e : Env} {s : State} {m : MethodId} {args : Array Value} {below : List Frame} {meth : Method} {c : Code} {H : Heap} {locs : List Loc} {D : va_G} {tc : Nat → ClassId} {b0 : Nat} {ls : Array Slot} {G : Lay} {Qx : Int32 → Mem → Prop} {l0 : Nat} {l1 : Int32} {l2 : Int32} {l3 : Int32} {l4 : Int32} {k0 : Int32} {K5 : Int32 × Int32 × Mem → Prop} {σ : Mem} (C : Cx p s m args meth c cX12_leadsTo RX12 6 D tc b0) (hr : meth.sig.returnType = (some FieldType.int)) (hK5 : ∀ (x3 : Int32) (x4 : Int32) (σ : Mem) (H : Heap) (locs : List Loc) (ls : Array Slot), va_S (AA b0) s.heap H locs → Wd G D tc b0 σ H → hL b0 ls 6 [some (.inr (.inr l0)), some (.inl l1), some (.inl l2), some (.inl x3), some (.inl x4), none] → K5 (x3, x4, σ) → W p l e rm_X12_leadsTo s m args below meth c H locs 0 0 (MQ below (va_Qi Qx (fun u t => Pw G D tc b0 u t) (AA b0)) args s 0 0 (AA b0)) (F0 m 5 ls [])) (hS : va_S (AA b0) s.heap H locs) (hW : Wd G D tc b0 σ H) (hl : hL b0 ls 6 [some (.inr (.inr l0)), some (.inl l1), some (.inl l2), some (.inl l3), some (.inl l4), none]) (h : X_X12_leadsTo_96 G Qx K5 l0 l1 l2 l3 l4 k0 σ) : W p l e rm_X12_leadsTo s m args below meth c H locs 0 0 (MQ below (va_Qi Qx (fun u t => Pw G D tc b0 u t) (AA b0)) args s 0 0 (AA b0)) (F0 m 96 ls [.int k0]) := by
  have hx := C.1
  have hb := C.2.1
  unfold X_X12_leadsTo_96 at h
  refine x_istore C hl dX12_leadsTo_96 (by decide) rfl (fun ls hl => ?_)
  refine x_iload C hl dX12_leadsTo_98 rfl ?_
  refine lv_if_eq hx hb dX12_leadsTo_100 (tgt := 117) rfl (fun hc => ?_) (fun hc => ?_)
  · replace h := h.1 hc
    exact t_X12_leadsTo_117 C hr hK5 hS hW (hl.keep [true, true, true, true, true, false] rfl) h
  · replace h := h.2 hc
    refine x_aload_n C hl dX12_leadsTo_103 rfl ?_
    refine x_iload C hl dX12_leadsTo_104 rfl ?_
    refine x_iload_n C hl dX12_leadsTo_106 rfl ?_
    refine x_iload_n C hl dX12_leadsTo_107 rfl ?_
    have t1 := h.1
    replace h := h.2
    refine y_i (x_run (As := [.int l4, .int l1, .int l2]) C hW hS (T_X12_leads l l0 l4 l1 l2 σ _ h) t1 kl_12 (CW.of yv_X12_leads ml_X12_373) ⟨rfl, rfl, ⟨by decide, by decide⟩, by decide, by decide⟩ rfl hl.1 rfl (by decide) dX12_leadsTo_108) hS (fun w3 s2 H locs h hW hS => ?_)
    refine lv_if_lt hx hb dX12_leadsTo_111 (tgt := 117) rfl (fun hc => ?_) (fun hc => ?_)
    · replace h := h.1 hc
      exact t_X12_leadsTo_117 C hr hK5 hS hW (hl.keep [true, true, true, true, true, false] rfl) h
    · replace h := h.2 hc
      refine x_iload C hl dX12_leadsTo_114 rfl ?_
      refine x_istore_n C hl dX12_leadsTo_116 (by decide) rfl (fun ls hl => ?_)
      exact t_X12_leadsTo_117 C hr hK5 hS hW (hl.keep [true, true, true, true, true, false] rfl) h
set_option maxRecDepth 20000 in
set_option maxHeartbeats 4000000 in
theorem t_X12_leadsTo_91 {p : Program} {l : Launch} {e : Env} {s : State} {m : MethodId} {args : Array Value} {below : List Frame} {meth : Method} {c : Code} {H : Heap} {locs : List Loc} {D : va_G} {tc : Nat → ClassId} {b0 : Nat} {ls : Array Slot} {G : Lay} {Qx : Int32 → Mem → Prop} {l0 : Nat} {l1 : Int32} {l2 : Int32} {l3 : Int32} {l4 : Int32}  {K5 : Int32 × Int32 × Mem → Prop} {σ : Mem} (C : Cx p s m args meth c cX12_leadsTo RX12 6 D tc b0) (hr : meth.sig.returnType = (some FieldType.int)) (hK5 : ∀ (x3 : Int32) (x4 : Int32) (σ : Mem) (H : Heap) (locs : List Loc) (ls : Array Slot), va_S (AA b0) s.heap H locs → Wd G D tc b0 σ H → hL b0 ls 6 [some (.inr (.inr l0)), some (.inl l1), some (.inl l2), some (.inl x3), some (.inl x4), none] → K5 (x3, x4, σ) → W p l e rm_X12_leadsTo s m args below meth c H locs 0 0 (MQ below (va_Qi Qx (fun u t => Pw G D tc b0 u t) (AA b0)) args s 0 0 (AA b0)) (F0 m 5 ls [])) (hS : va_S (AA b0) s.heap H locs) (hW : Wd G D tc b0 σ H) (hl : hL b0 ls 6 [some (.inr (.inr l0)), some (.inl l1), some (.inl l2), some (.inl l3), some (.inl l4), none]) (h : X_X12_leadsTo_91 G Qx K5 l0 l1 l2 l3 l4  σ) : W p l e rm_X12_leadsTo s m args below meth c H locs 0 0 (MQ below (va_Qi Qx (fun u t => Pw G D tc b0 u t) (AA b0)) args s 0 0 (AA b0)) (F0 m 91 ls []) := by
  have hx := C.1
  have hb := C.2.1
  unfold X_X12_leadsTo_91 at h
  refine lv_iconst (v := (1 : Int32)) hx hb dX12_leadsTo_91 (by decide) ?_
  refine lv_goto hx hb dX12_leadsTo_92 (tgt := 96) rfl ?_
  exact t_X12_leadsTo_96 C hr hK5 hS hW (hl.keep [true, true, true, true, true, false] rfl) h
set_option maxRecDepth 20000 in
set_option maxHeartbeats 4000000 in
theorem t_X12_leadsTo_95 {p : Program} {l : Launch} {e : Env} {s : State} {m : MethodId} {args : Array Value} {below : List Frame} {meth : Method} {c : Code} {H : Heap} {locs : List Loc} {D : va_G} {tc : Nat → ClassId} {b0 : Nat} {ls : Array Slot} {G : Lay} {Qx : Int32 → Mem → Prop} {l0 : Nat} {l1 : Int32} {l2 : Int32} {l3 : Int32} {l4 : Int32}  {K5 : Int32 × Int32 × Mem → Prop} {σ : Mem} (C : Cx p s m args meth c cX12_leadsTo RX12 6 D tc b0) (hr : meth.sig.returnType = (some FieldType.int)) (hK5 : ∀ (x3 : Int32) (x4 : Int32) (σ : Mem) (H : Heap) (locs : List Loc) (ls : Array Slot), va_S (AA b0) s.heap H locs → Wd G D tc b0 σ H → hL b0 ls 6 [some (.inr (.inr l0)), some (.inl l1), some (.inl l2), some (.inl x3), some (.inl x4), none] → K5 (x3, x4, σ) → W p l e rm_X12_leadsTo s m args below meth c H locs 0 0 (MQ below (va_Qi Qx (fun u t => Pw G D tc b0 u t) (AA b0)) args s 0 0 (AA b0)) (F0 m 5 ls [])) (hS : va_S (AA b0) s.heap H locs) (hW : Wd G D tc b0 σ H) (hl : hL b0 ls 6 [some (.inr (.inr l0)), some (.inl l1), some (.inl l2), some (.inl l3), some (.inl l4), none]) (h : X_X12_leadsTo_95 G Qx K5 l0 l1 l2 l3 l4  σ) : W p l e rm_X12_leadsTo s m args below meth c H locs 0 0 (MQ below (va_Qi Qx (fun u t => Pw G D tc b0 u t) (AA b0)) args s 0 0 (AA b0)) (F0 m 95 ls []) := by
  have hx := C.1
  have hb := C.2.1
  unfold X_X12_leadsTo_95 at h
  refine lv_iconst (v := (0 : Int32)) hx hb dX12_leadsTo_95 (by decide) ?_
  exact t_X12_leadsTo_96 C hr hK5 hS hW (hl.keep [true, true, true, true, true, false] rfl) h
set_option maxRecDepth 20000 in
set_option maxHeartbeats 4000000 in
theorem t_X12_leadsTo_39 {p : Program} {l : Launch} {e : Env} {s : State} {m : MethodId} {args : Array Value} {below : List Frame} {meth : Method} {c : Code} {H : Heap} {locs : List Loc} {D : va_G} {tc : Nat → ClassId} {b0 : Nat} {ls : Array Slot} {G : Lay} {Qx : Int32 → Mem → Prop} {l0 : Nat} {l1 : Int32} {l2 : Int32} {l3 : Int32} {l4 : Int32}  {K5 : Int32 × Int32 × Mem → Prop} {σ : Mem} (C : Cx p s m args meth c cX12_leadsTo RX12 6 D tc b0) (hr : meth.sig.returnType = (some FieldType.int)) (hK5 : ∀ (x3 : Int32) (x4 : Int32) (σ : Mem) (H : Heap) (locs : List Loc) (ls : Array Slot), va_S (AA b0) s.heap H locs → Wd G D tc b0 σ H → hL b0 ls 6 [some (.inr (.inr l0)), some (.inl l1), some (.inl l2), some (.inl x3), some (.inl x4), none] → K5 (x3, x4, σ) → W p l e rm_X12_leadsTo s m args below meth c H locs 0 0 (MQ below (va_Qi Qx (fun u t => Pw G D tc b0 u t) (AA b0)) args s 0 0 (AA b0)) (F0 m 5 ls [])) (hS : va_S (AA b0) s.heap H locs) (hW : Wd G D tc b0 σ H) (hl : hL b0 ls 6 [some (.inr (.inr l0)), some (.inl l1), some (.inl l2), some (.inl l3), some (.inl l4), none]) (h : X_X12_leadsTo_39 G Qx K5 l0 l1 l2 l3 l4  σ) : W p l e rm_X12_leadsTo s m args below meth c H locs 0 0 (MQ below (va_Qi Qx (fun u t => Pw G D tc b0 u t) (AA b0)) args s 0 0 (AA b0)) (F0 m 39 ls []) := by
  have hx := C.1
  have hb := C.2.1
  unfold X_X12_leadsTo_39 at h
  refine x_iload_n C hl dX12_leadsTo_39 rfl ?_
  refine lv_if_lt hx hb dX12_leadsTo_40 (tgt := 91) rfl (fun hc => ?_) (fun hc => ?_)
  · replace h := h.1 hc
    exact t_X12_leadsTo_91 C hr hK5 hS hW (hl.keep [true, true, true, true, true, false] rfl) h
  · replace h := h.2 hc
    refine x_aload_n C hl dX12_leadsTo_43 rfl ?_
    have t1 := h.1
    replace h := h.2
    refine x_get C hW (t := 12) (k := 29) t1 kl_12 (by decide) fl_X12_83 (v := rv b0 (mR σ l0 29)) rfl dX12_leadsTo_44 ?_
    refine x_iload C hl dX12_leadsTo_47 rfl ?_
    have t2 := h.1
    replace h := h.2
    have v3 := h.1
    replace h := h.2
    refine x_iald C hW t2 v3 dX12_leadsTo_49 ?_
    refine x_aload_n C hl dX12_leadsTo_50 rfl ?_
    refine x_get C hW (t := 12) (k := 29) t1 kl_12 (by decide) fl_X12_83 (v := rv b0 (mR σ l0 29)) rfl dX12_leadsTo_51 ?_
    refine x_iload_n C hl dX12_leadsTo_54 rfl ?_
    have v4 := h.1
    replace h := h.2
    refine x_iald C hW t2 v4 dX12_leadsTo_55 ?_
    refine lv_icmp_lt hx hb dX12_leadsTo_56 (tgt := 91) rfl (fun hc => ?_) (fun hc => ?_)
    · replace h := h.1 hc
      exact t_X12_leadsTo_91 C hr hK5 hS hW (hl.keep [true, true, true, true, true, false] rfl) h
    · replace h := h.2 hc
      refine x_aload_n C hl dX12_leadsTo_59 rfl ?_
      refine x_get C hW (t := 12) (k := 29) t1 kl_12 (by decide) fl_X12_83 (v := rv b0 (mR σ l0 29)) rfl dX12_leadsTo_60 ?_
      refine x_iload C hl dX12_leadsTo_63 rfl ?_
      refine x_iald C hW t2 v3 dX12_leadsTo_65 ?_
      refine x_aload_n C hl dX12_leadsTo_66 rfl ?_
      refine x_get C hW (t := 12) (k := 29) t1 kl_12 (by decide) fl_X12_83 (v := rv b0 (mR σ l0 29)) rfl dX12_leadsTo_67 ?_
      refine x_iload_n C hl dX12_leadsTo_70 rfl ?_
      refine x_iald C hW t2 v4 dX12_leadsTo_71 ?_
      refine lv_icmp_ne hx hb dX12_leadsTo_72 (tgt := 95) rfl (fun hc => ?_) (fun hc => ?_)
      · replace h := h.2 hc
        exact t_X12_leadsTo_95 C hr hK5 hS hW (hl.keep [true, true, true, true, true, false] rfl) h
      · replace h := h.1 hc
        refine x_aload_n C hl dX12_leadsTo_75 rfl ?_
        refine x_get C hW (t := 12) (k := 28) t1 kl_12 (by decide) fl_X12_80 (v := rv b0 (mR σ l0 28)) rfl dX12_leadsTo_76 ?_
        refine x_iload C hl dX12_leadsTo_79 rfl ?_
        have t5 := h.1
        replace h := h.2
        have v6 := h.1
        replace h := h.2
        refine x_iald C hW t5 v6 dX12_leadsTo_81 ?_
        refine x_aload_n C hl dX12_leadsTo_82 rfl ?_
        refine x_get C hW (t := 12) (k := 28) t1 kl_12 (by decide) fl_X12_80 (v := rv b0 (mR σ l0 28)) rfl dX12_leadsTo_83 ?_
        refine x_iload_n C hl dX12_leadsTo_86 rfl ?_
        have v7 := h.1
        replace h := h.2
        refine x_iald C hW t5 v7 dX12_leadsTo_87 ?_
        refine lv_icmp_ge hx hb dX12_leadsTo_88 (tgt := 95) rfl (fun hc => ?_) (fun hc => ?_)
        · replace h := h.1 hc
          exact t_X12_leadsTo_95 C hr hK5 hS hW (hl.keep [true, true, true, true, true, false] rfl) h
        · replace h := h.2 hc
          exact t_X12_leadsTo_91 C hr hK5 hS hW (hl.keep [true, true, true, true, true, false] rfl) h
set_option maxRecDepth 20000 in
set_option maxHeartbeats 4000000 in
theorem t_X12_leadsTo_141 {p : Program} {l : Launch} {e : Env} {s : State} {m : MethodId} {args : Array Value} {below : List Frame} {meth : Method} {c : Code} {H : Heap} {locs : List Loc} {D : va_G} {tc : Nat → ClassId} {b0 : Nat} {ls : Array Slot} {G : Lay} {Qx : Int32 → Mem → Prop} {l3 : Int32}  {σ : Mem} (C : Cx p s m args meth c cX12_leadsTo RX12 6 D tc b0) (hr : meth.sig.returnType = (some FieldType.int)) (hS : va_S (AA b0) s.heap H locs) (hW : Wd G D tc b0 σ H) (hl : hL b0 ls 6 [none, none, none, some (.inl l3), none, none]) (h : X_X12_leadsTo_141 G Qx l3  σ) : W p l e rm_X12_leadsTo s m args below meth c H locs 0 0 (MQ below (va_Qi Qx (fun u t => Pw G D tc b0 u t) (AA b0)) args s 0 0 (AA b0)) (F0 m 141 ls []) := by
  have hx := C.1
  have hb := C.2.1
  unfold X_X12_leadsTo_141 at h
  refine x_iload_n C hl dX12_leadsTo_141 rfl ?_
  exact r_i C hr hW hS h dX12_leadsTo_142
set_option maxRecDepth 20000 in
set_option maxHeartbeats 4000000 in
theorem t_X12_leadsTo_5_n {p : Program} {l : Launch} {e : Env} {s : State} {m : MethodId} {args : Array Value} {below : List Frame} {meth : Method} {c : Code} {D : va_G} {tc : Nat → ClassId} {b0 : Nat} {G : Lay} {Qx : Int32 → Mem → Prop} {l0 : Nat} {l1 : Int32} {l2 : Int32} (C : Cx p s m args meth c cX12_leadsTo RX12 6 D tc b0) (hr : meth.sig.returnType = (some FieldType.int)) (n : Nat) : ∀ (l3 : Int32) (l4 : Int32) (σ : Mem) (H : Heap) (locs : List Loc) (ls : Array Slot), va_S (AA b0) s.heap H locs → Wd G D tc b0 σ H → hL b0 ls 6 [some (.inr (.inr l0)), some (.inl l1), some (.inl l2), some (.inl l3), some (.inl l4), none] → Lp (X_X12_leadsTo_5_s G Qx l0 l1 l2) n (l3, l4, σ) → W p l e rm_X12_leadsTo s m args below meth c H locs 0 0 (MQ below (va_Qi Qx (fun u t => Pw G D tc b0 u t) (AA b0)) args s 0 0 (AA b0)) (F0 m 5 ls []) := by
  have hx := C.1
  have hb := C.2.1
  induction n with
  | zero => intro l3 l4 σ H locs ls hS hW hl h; exact False.elim h
  | succ n hK5 =>
    intro l3 l4 σ H locs ls hS hW hl h
    replace h : X_X12_leadsTo_5_s G Qx l0 l1 l2 (Lp (X_X12_leadsTo_5_s G Qx l0 l1 l2) n) (l3, l4, σ) := h
    unfold X_X12_leadsTo_5_s at h
    refine x_iload C hl dX12_leadsTo_5 rfl ?_
    refine x_aload_n C hl dX12_leadsTo_7 rfl ?_
    have t1 := h.1
    replace h := h.2
    refine x_get C hW (t := 12) (k := 26) t1 kl_12 (by decide) fl_X12_344 (v := .int (mI σ l0 26)) rfl dX12_leadsTo_8 ?_
    refine lv_icmp_ge hx hb dX12_leadsTo_11 (tgt := 123) rfl (fun hc => ?_) (fun hc => ?_)
    · replace h := h.1 hc
      refine x_iload_n C hl dX12_leadsTo_123 rfl ?_
      refine lv_if_lt hx hb dX12_leadsTo_124 (tgt := 141) rfl (fun hc => ?_) (fun hc => ?_)
      · replace h := h.1 hc
        exact t_X12_leadsTo_141 C hr hS hW (hl.keep [false, false, false, true, false, false] rfl) h
      · replace h := h.2 hc
        refine x_aload_n C hl dX12_leadsTo_127 rfl ?_
        refine x_aload_n C hl dX12_leadsTo_128 rfl ?_
        refine x_iload_n C hl dX12_leadsTo_129 rfl ?_
        refine x_iload_n C hl dX12_leadsTo_130 rfl ?_
        refine x_iload_n C hl dX12_leadsTo_131 rfl ?_
        refine y_i (x_run (As := [.int l3, .int l1, .int l2]) C hW hS (T_X12_leads l l0 l3 l1 l2 σ _ h) t1 kl_12 (CW.of yv_X12_leads ml_X12_373) ⟨rfl, rfl, ⟨by decide, by decide⟩, by decide, by decide⟩ rfl hl.1 rfl (by simp [rv_cat, cat_i, cat_l]) dX12_leadsTo_132) hS (fun w3 s2 H locs h hW hS => ?_)
        refine lv_iconst (v := (2 : Int32)) hx hb dX12_leadsTo_135 (by decide) ?_
        refine y_i (x_run (As := [.int w3, .int (2 : Int32)]) C hW hS (T_X12_breaks l l0 w3 (2 : Int32) s2 _ h) t1 kl_12 (CW.of yv_X12_breaks ml_X12_362) ⟨rfl, rfl, ⟨by decide, by decide⟩, by decide, by decide⟩ rfl hl.1 rfl (by decide) dX12_leadsTo_136) hS (fun w5 s4 H locs h hW hS => ?_)
        refine x_istore C hl dX12_leadsTo_139 (by decide) rfl (fun ls hl => ?_)
        exact t_X12_leadsTo_141 C hr hS hW (hl.keep [false, false, false, true, false, false] rfl) h
    · replace h := h.2 hc
      refine x_aload_n C hl dX12_leadsTo_14 rfl ?_
      refine x_get C hW (t := 12) (k := 27) t1 kl_12 (by decide) fl_X12_77 (v := rv b0 (mR σ l0 27)) rfl dX12_leadsTo_15 ?_
      refine x_iload C hl dX12_leadsTo_18 rfl ?_
      have t6 := h.1
      replace h := h.2
      have v7 := h.1
      replace h := h.2
      refine x_iald C hW t6 v7 dX12_leadsTo_20 ?_
      refine x_iload_n C hl dX12_leadsTo_21 rfl ?_
      refine lv_icmp_ne hx hb dX12_leadsTo_22 (tgt := 39) rfl (fun hc => ?_) (fun hc => ?_)
      · replace h := h.2 hc
        exact t_X12_leadsTo_39 C hr hK5 hS hW (hl.keep [true, true, true, true, true, false] rfl) h
      · replace h := h.1 hc
        refine x_aload_n C hl dX12_leadsTo_25 rfl ?_
        refine x_get C hW (t := 12) (k := 28) t1 kl_12 (by decide) fl_X12_80 (v := rv b0 (mR σ l0 28)) rfl dX12_leadsTo_26 ?_
        refine x_iload C hl dX12_leadsTo_29 rfl ?_
        have t8 := h.1
        replace h := h.2
        have v9 := h.1
        replace h := h.2
        refine x_iald C hW t8 v9 dX12_leadsTo_31 ?_
        refine x_iload_n C hl dX12_leadsTo_32 rfl ?_
        refine lv_icmp_ne hx hb dX12_leadsTo_33 (tgt := 39) rfl (fun hc => ?_) (fun hc => ?_)
        · replace h := h.2 hc
          exact t_X12_leadsTo_39 C hr hK5 hS hW (hl.keep [true, true, true, true, true, false] rfl) h
        · replace h := h.1 hc
          refine lv_goto hx hb dX12_leadsTo_36 (tgt := 117) rfl ?_
          exact t_X12_leadsTo_117 C hr hK5 hS hW (hl.keep [true, true, true, true, true, false] rfl) h
set_option maxRecDepth 20000 in
set_option maxHeartbeats 4000000 in
theorem t_X12_leadsTo_5 {p : Program} {l : Launch} {e : Env} {s : State} {m : MethodId} {args : Array Value} {below : List Frame} {meth : Method} {c : Code} {H : Heap} {locs : List Loc} {D : va_G} {tc : Nat → ClassId} {b0 : Nat} {ls : Array Slot} {G : Lay} {Qx : Int32 → Mem → Prop} {l0 : Nat} {l1 : Int32} {l2 : Int32} {l3 : Int32} {l4 : Int32}  {σ : Mem} (C : Cx p s m args meth c cX12_leadsTo RX12 6 D tc b0) (hr : meth.sig.returnType = (some FieldType.int)) (hS : va_S (AA b0) s.heap H locs) (hW : Wd G D tc b0 σ H) (hl : hL b0 ls 6 [some (.inr (.inr l0)), some (.inl l1), some (.inl l2), some (.inl l3), some (.inl l4), none]) (h : X_X12_leadsTo_5 G Qx l0 l1 l2 l3 l4 σ) : W p l e rm_X12_leadsTo s m args below meth c H locs 0 0 (MQ below (va_Qi Qx (fun u t => Pw G D tc b0 u t) (AA b0)) args s 0 0 (AA b0)) (F0 m 5 ls []) := by
  obtain ⟨n, h⟩ := h
  exact t_X12_leadsTo_5_n C hr n l3 l4 σ H locs ls hS hW hl h
set_option maxRecDepth 20000 in
set_option maxHeartbeats 4000000 in
theorem t_X12_leadsTo_0 {p : Program} {l : Launch} {e : Env} {s : State} {m : MethodId} {args : Array Value} {below : List Frame} {meth : Method} {c : Code} {H : Heap} {locs : List Loc} {D : va_G} {tc : Nat → ClassId} {b0 : Nat} {ls : Array Slot} {G : Lay} {Qx : Int32 → Mem → Prop} {l0 : Nat} {l1 : Int32} {l2 : Int32}  {σ : Mem} (C : Cx p s m args meth c cX12_leadsTo RX12 6 D tc b0) (hr : meth.sig.returnType = (some FieldType.int)) (hS : va_S (AA b0) s.heap H locs) (hW : Wd G D tc b0 σ H) (hl : hL b0 ls 6 [some (.inr (.inr l0)), some (.inl l1), some (.inl l2), none, none, none]) (h : X_X12_leadsTo_0 G Qx l0 l1 l2  σ) : W p l e rm_X12_leadsTo s m args below meth c H locs 0 0 (MQ below (va_Qi Qx (fun u t => Pw G D tc b0 u t) (AA b0)) args s 0 0 (AA b0)) (F0 m 0 ls []) := by
  have hx := C.1
  have hb := C.2.1
  unfold X_X12_leadsTo_0 at h
  refine lv_iconst (v := (-1 : Int32)) hx hb dX12_leadsTo_0 (by decide) ?_
  refine x_istore_n C hl dX12_leadsTo_1 (by decide) rfl (fun ls hl => ?_)
  refine lv_iconst (v := (0 : Int32)) hx hb dX12_leadsTo_2 (by decide) ?_
  refine x_istore C hl dX12_leadsTo_3 (by decide) rfl (fun ls hl => ?_)
  exact t_X12_leadsTo_5 C hr hS hW (hl.keep [true, true, true, true, true, false] rfl) h
theorem T_X12_leadsTo (l : Launch) {G : Lay} {D : va_G} {tc : Nat → ClassId} {b0 : Nat} (l0 : Nat) (l1 : Int32) (l2 : Int32) (σ : Mem) (Qx : Int32 → Mem → Prop) (h : X_X12_leadsTo G Qx l0 l1 l2 σ) : MI l yX12_leadsTo cX12_leadsTo 6 ((some FieldType.int)) rm_X12_leadsTo G D tc b0 [rv b0 l0, .int l1, .int l2] σ Qx :=
  x_entry (y := yX12_leadsTo) [.inr (.inr l0), .inl l1, .inl l2] 3 (by decide) (Nat.le_of_ble_eq_true rfl) (fun p e s m args below meth c ls C hr hW hl => t_X12_leadsTo_0 C hr va_S.rf hW (hl.keep [true, true, true, false, false, false] rfl) h)
/-! X12_keepRows -/
set_option maxRecDepth 20000 in
set_option maxHeartbeats 4000000 in
theorem t_X12_keepRows_74_n {p : Program} {l : Launch} {e : Env} {s : State} {m : MethodId} {args : Array Value} {below : List Frame} {meth : Method} {c : Code} {D : va_G} {tc : Nat → ClassId} {b0 : Nat} {G : Lay} {Qx : Mem → Prop} {l0 : Nat} (C : Cx p s m args meth c cX12_keepRows RX12 2 D tc b0) (hr : meth.sig.returnType = (none : Option FieldType)) (n : Nat) : ∀ (l1 : Int32) (σ : Mem) (H : Heap) (locs : List Loc) (ls : Array Slot), va_S (AA b0) s.heap H locs → Wd G D tc b0 σ H → hL b0 ls 2 [some (.inr (.inr l0)), some (.inl l1)] → Lp (X_X12_keepRows_74_s G Qx l0) n (l1, σ) → W p l e rm_X12_keepRows s m args below meth c H locs 0 0 (MQ below (va_Qv Qx (fun u t => Pw G D tc b0 u t) (AA b0)) args s 0 0 (AA b0)) (F0 m 74 ls []) := by
  have hx := C.1
  have hb := C.2.1
  induction n with
  | zero => intro l1 σ H locs ls hS hW hl h; exact False.elim h
  | succ n hK74 =>
    intro l1 σ H locs ls hS hW hl h
    replace h : X_X12_keepRows_74_s G Qx l0 (Lp (X_X12_keepRows_74_s G Qx l0) n) (l1, σ) := h
    unfold X_X12_keepRows_74_s at h
    refine x_iload_n C hl dX12_keepRows_74 rfl ?_
    refine lv_bipush (v := (16 : Int32)) hx hb dX12_keepRows_75 (by decide) ?_
    refine x_aload_n C hl dX12_keepRows_77 rfl ?_
    have t1 := h.1
    replace h := h.2
    refine x_get C hW (t := 12) (k := 26) t1 kl_12 (by decide) fl_X12_344 (v := .int (mI σ l0 26)) rfl dX12_keepRows_78 ?_
    refine lv_imul hx hb dX12_keepRows_81 ?_
    refine lv_icmp_ge hx hb dX12_keepRows_82 (tgt := 103) rfl (fun hc => ?_) (fun hc => ?_)
    · replace h := h.1 hc
      exact r_v C hr hW hS h dX12_keepRows_103
    · replace h := h.2 hc
      refine x_aload_n C hl dX12_keepRows_85 rfl ?_
      refine x_get C hW (t := 12) (k := 38) t1 kl_12 (by decide) fl_X12_107 (v := rv b0 (mR σ l0 38)) rfl dX12_keepRows_86 ?_
      refine x_iload_n C hl dX12_keepRows_89 rfl ?_
      refine x_aload_n C hl dX12_keepRows_90 rfl ?_
      refine x_get C hW (t := 12) (k := 31) t1 kl_12 (by decide) fl_X12_89 (v := rv b0 (mR σ l0 31)) rfl dX12_keepRows_91 ?_
      refine x_iload_n C hl dX12_keepRows_94 rfl ?_
      have t2 := h.1
      replace h := h.2
      have v3 := h.1
      replace h := h.2
      refine x_iald C hW t2 v3 dX12_keepRows_95 ?_
      have t4 := h.1
      replace h := h.2
      have v5 := h.1
      replace h := h.2
      refine x_iast C hW hS t4 v5 dX12_keepRows_96 (fun H locs hW hS => ?_)
      obtain ⟨s6, e_s6⟩ : ∃ z : Mem, z = (sI σ (mR σ l0 38) l1.toNatClampNeg (mI σ (mR σ l0 31) l1.toNatClampNeg)) := ⟨_, rfl⟩
      replace h := h s6 e_s6
      replace hW : Wd G D tc b0 s6 H := by rw [e_s6]; exact hW
      refine x_iinc C hl dX12_keepRows_97 rfl (v := (1 : Int32)) (by decide) (by decide) rfl (fun ls hl => ?_)
      refine lv_goto hx hb dX12_keepRows_100 (tgt := 74) rfl ?_
      exact hK74 _ _ _ _ _ hS hW (hl.keep [true, true] rfl) h
set_option maxRecDepth 20000 in
set_option maxHeartbeats 4000000 in
theorem t_X12_keepRows_74 {p : Program} {l : Launch} {e : Env} {s : State} {m : MethodId} {args : Array Value} {below : List Frame} {meth : Method} {c : Code} {H : Heap} {locs : List Loc} {D : va_G} {tc : Nat → ClassId} {b0 : Nat} {ls : Array Slot} {G : Lay} {Qx : Mem → Prop} {l0 : Nat} {l1 : Int32}  {σ : Mem} (C : Cx p s m args meth c cX12_keepRows RX12 2 D tc b0) (hr : meth.sig.returnType = (none : Option FieldType)) (hS : va_S (AA b0) s.heap H locs) (hW : Wd G D tc b0 σ H) (hl : hL b0 ls 2 [some (.inr (.inr l0)), some (.inl l1)]) (h : X_X12_keepRows_74 G Qx l0 l1 σ) : W p l e rm_X12_keepRows s m args below meth c H locs 0 0 (MQ below (va_Qv Qx (fun u t => Pw G D tc b0 u t) (AA b0)) args s 0 0 (AA b0)) (F0 m 74 ls []) := by
  obtain ⟨n, h⟩ := h
  exact t_X12_keepRows_74_n C hr n l1 σ H locs ls hS hW hl h
set_option maxRecDepth 20000 in
set_option maxHeartbeats 4000000 in
theorem t_X12_keepRows_10_n {p : Program} {l : Launch} {e : Env} {s : State} {m : MethodId} {args : Array Value} {below : List Frame} {meth : Method} {c : Code} {D : va_G} {tc : Nat → ClassId} {b0 : Nat} {G : Lay} {Qx : Mem → Prop} {l0 : Nat} (C : Cx p s m args meth c cX12_keepRows RX12 2 D tc b0) (hr : meth.sig.returnType = (none : Option FieldType)) (n : Nat) : ∀ (l1 : Int32) (σ : Mem) (H : Heap) (locs : List Loc) (ls : Array Slot), va_S (AA b0) s.heap H locs → Wd G D tc b0 σ H → hL b0 ls 2 [some (.inr (.inr l0)), some (.inl l1)] → Lp (X_X12_keepRows_10_s G Qx l0) n (l1, σ) → W p l e rm_X12_keepRows s m args below meth c H locs 0 0 (MQ below (va_Qv Qx (fun u t => Pw G D tc b0 u t) (AA b0)) args s 0 0 (AA b0)) (F0 m 10 ls []) := by
  have hx := C.1
  have hb := C.2.1
  induction n with
  | zero => intro l1 σ H locs ls hS hW hl h; exact False.elim h
  | succ n hK10 =>
    intro l1 σ H locs ls hS hW hl h
    replace h : X_X12_keepRows_10_s G Qx l0 (Lp (X_X12_keepRows_10_s G Qx l0) n) (l1, σ) := h
    unfold X_X12_keepRows_10_s at h
    refine x_iload_n C hl dX12_keepRows_10 rfl ?_
    refine x_aload_n C hl dX12_keepRows_11 rfl ?_
    have t1 := h.1
    replace h := h.2
    refine x_get C hW (t := 12) (k := 26) t1 kl_12 (by decide) fl_X12_344 (v := .int (mI σ l0 26)) rfl dX12_keepRows_12 ?_
    refine lv_icmp_ge hx hb dX12_keepRows_15 (tgt := 72) rfl (fun hc => ?_) (fun hc => ?_)
    · replace h := h.1 hc
      refine lv_iconst (v := (0 : Int32)) hx hb dX12_keepRows_72 (by decide) ?_
      refine x_istore_n C hl dX12_keepRows_73 (by decide) rfl (fun ls hl => ?_)
      exact t_X12_keepRows_74 C hr hS hW (hl.keep [true, true] rfl) h
    · replace h := h.2 hc
      refine x_aload_n C hl dX12_keepRows_18 rfl ?_
      refine x_get C hW (t := 12) (k := 34) t1 kl_12 (by decide) fl_X12_95 (v := rv b0 (mR σ l0 34)) rfl dX12_keepRows_19 ?_
      refine x_iload_n C hl dX12_keepRows_22 rfl ?_
      refine x_aload_n C hl dX12_keepRows_23 rfl ?_
      refine x_get C hW (t := 12) (k := 27) t1 kl_12 (by decide) fl_X12_77 (v := rv b0 (mR σ l0 27)) rfl dX12_keepRows_24 ?_
      refine x_iload_n C hl dX12_keepRows_27 rfl ?_
      have t2 := h.1
      replace h := h.2
      have v3 := h.1
      replace h := h.2
      refine x_iald C hW t2 v3 dX12_keepRows_28 ?_
      have t4 := h.1
      replace h := h.2
      have v5 := h.1
      replace h := h.2
      refine x_iast C hW hS t4 v5 dX12_keepRows_29 (fun H locs hW hS => ?_)
      obtain ⟨s6, e_s6⟩ : ∃ z : Mem, z = (sI σ (mR σ l0 34) l1.toNatClampNeg (mI σ (mR σ l0 27) l1.toNatClampNeg)) := ⟨_, rfl⟩
      replace h := h s6 e_s6
      replace hW : Wd G D tc b0 s6 H := by rw [e_s6]; exact hW
      refine x_aload_n C hl dX12_keepRows_30 rfl ?_
      refine x_get C hW (t := 12) (k := 35) t1 kl_12 (by decide) fl_X12_98 (v := rv b0 (mR s6 l0 35)) rfl dX12_keepRows_31 ?_
      refine x_iload_n C hl dX12_keepRows_34 rfl ?_
      refine x_aload_n C hl dX12_keepRows_35 rfl ?_
      refine x_get C hW (t := 12) (k := 28) t1 kl_12 (by decide) fl_X12_80 (v := rv b0 (mR s6 l0 28)) rfl dX12_keepRows_36 ?_
      refine x_iload_n C hl dX12_keepRows_39 rfl ?_
      have t7 := h.1
      replace h := h.2
      have v8 := h.1
      replace h := h.2
      refine x_iald C hW t7 v8 dX12_keepRows_40 ?_
      have t9 := h.1
      replace h := h.2
      have v10 := h.1
      replace h := h.2
      refine x_iast C hW hS t9 v10 dX12_keepRows_41 (fun H locs hW hS => ?_)
      obtain ⟨s11, e_s11⟩ : ∃ z : Mem, z = (sI s6 (mR s6 l0 35) l1.toNatClampNeg (mI s6 (mR s6 l0 28) l1.toNatClampNeg)) := ⟨_, rfl⟩
      replace h := h s11 e_s11
      replace hW : Wd G D tc b0 s11 H := by rw [e_s11]; exact hW
      refine x_aload_n C hl dX12_keepRows_42 rfl ?_
      refine x_get C hW (t := 12) (k := 36) t1 kl_12 (by decide) fl_X12_101 (v := rv b0 (mR s11 l0 36)) rfl dX12_keepRows_43 ?_
      refine x_iload_n C hl dX12_keepRows_46 rfl ?_
      refine x_aload_n C hl dX12_keepRows_47 rfl ?_
      refine x_get C hW (t := 12) (k := 29) t1 kl_12 (by decide) fl_X12_83 (v := rv b0 (mR s11 l0 29)) rfl dX12_keepRows_48 ?_
      refine x_iload_n C hl dX12_keepRows_51 rfl ?_
      have t12 := h.1
      replace h := h.2
      have v13 := h.1
      replace h := h.2
      refine x_iald C hW t12 v13 dX12_keepRows_52 ?_
      have t14 := h.1
      replace h := h.2
      have v15 := h.1
      replace h := h.2
      refine x_iast C hW hS t14 v15 dX12_keepRows_53 (fun H locs hW hS => ?_)
      obtain ⟨s16, e_s16⟩ : ∃ z : Mem, z = (sI s11 (mR s11 l0 36) l1.toNatClampNeg (mI s11 (mR s11 l0 29) l1.toNatClampNeg)) := ⟨_, rfl⟩
      replace h := h s16 e_s16
      replace hW : Wd G D tc b0 s16 H := by rw [e_s16]; exact hW
      refine x_aload_n C hl dX12_keepRows_54 rfl ?_
      refine x_get C hW (t := 12) (k := 37) t1 kl_12 (by decide) fl_X12_104 (v := rv b0 (mR s16 l0 37)) rfl dX12_keepRows_55 ?_
      refine x_iload_n C hl dX12_keepRows_58 rfl ?_
      refine x_aload_n C hl dX12_keepRows_59 rfl ?_
      refine x_get C hW (t := 12) (k := 30) t1 kl_12 (by decide) fl_X12_86 (v := rv b0 (mR s16 l0 30)) rfl dX12_keepRows_60 ?_
      refine x_iload_n C hl dX12_keepRows_63 rfl ?_
      have t17 := h.1
      replace h := h.2
      have v18 := h.1
      replace h := h.2
      refine x_iald C hW t17 v18 dX12_keepRows_64 ?_
      have t19 := h.1
      replace h := h.2
      have v20 := h.1
      replace h := h.2
      refine x_iast C hW hS t19 v20 dX12_keepRows_65 (fun H locs hW hS => ?_)
      obtain ⟨s21, e_s21⟩ : ∃ z : Mem, z = (sI s16 (mR s16 l0 37) l1.toNatClampNeg (mI s16 (mR s16 l0 30) l1.toNatClampNeg)) := ⟨_, rfl⟩
      replace h := h s21 e_s21
      replace hW : Wd G D tc b0 s21 H := by rw [e_s21]; exact hW
      refine x_iinc C hl dX12_keepRows_66 rfl (v := (1 : Int32)) (by decide) (by decide) rfl (fun ls hl => ?_)
      refine lv_goto hx hb dX12_keepRows_69 (tgt := 10) rfl ?_
      exact hK10 _ _ _ _ _ hS hW (hl.keep [true, true] rfl) h
set_option maxRecDepth 20000 in
set_option maxHeartbeats 4000000 in
theorem t_X12_keepRows_10 {p : Program} {l : Launch} {e : Env} {s : State} {m : MethodId} {args : Array Value} {below : List Frame} {meth : Method} {c : Code} {H : Heap} {locs : List Loc} {D : va_G} {tc : Nat → ClassId} {b0 : Nat} {ls : Array Slot} {G : Lay} {Qx : Mem → Prop} {l0 : Nat} {l1 : Int32}  {σ : Mem} (C : Cx p s m args meth c cX12_keepRows RX12 2 D tc b0) (hr : meth.sig.returnType = (none : Option FieldType)) (hS : va_S (AA b0) s.heap H locs) (hW : Wd G D tc b0 σ H) (hl : hL b0 ls 2 [some (.inr (.inr l0)), some (.inl l1)]) (h : X_X12_keepRows_10 G Qx l0 l1 σ) : W p l e rm_X12_keepRows s m args below meth c H locs 0 0 (MQ below (va_Qv Qx (fun u t => Pw G D tc b0 u t) (AA b0)) args s 0 0 (AA b0)) (F0 m 10 ls []) := by
  obtain ⟨n, h⟩ := h
  exact t_X12_keepRows_10_n C hr n l1 σ H locs ls hS hW hl h
set_option maxRecDepth 20000 in
set_option maxHeartbeats 4000000 in
theorem t_X12_keepRows_0 {p : Program} {l : Launch} {e : Env} {s : State} {m : MethodId} {args : Array Value} {below : List Frame} {meth : Method} {c : Code} {H : Heap} {locs : List Loc} {D : va_G} {tc : Nat → ClassId} {b0 : Nat} {ls : Array Slot} {G : Lay} {Qx : Mem → Prop} {l0 : Nat}  {σ : Mem} (C : Cx p s m args meth c cX12_keepRows RX12 2 D tc b0) (hr : meth.sig.returnType = (none : Option FieldType)) (hS : va_S (AA b0) s.heap H locs) (hW : Wd G D tc b0 σ H) (hl : hL b0 ls 2 [some (.inr (.inr l0)), none]) (h : X_X12_keepRows_0 G Qx l0  σ) : W p l e rm_X12_keepRows s m args below meth c H locs 0 0 (MQ below (va_Qv Qx (fun u t => Pw G D tc b0 u t) (AA b0)) args s 0 0 (AA b0)) (F0 m 0 ls []) := by
  have hx := C.1
  have hb := C.2.1
  unfold X_X12_keepRows_0 at h
  refine x_aload_n C hl dX12_keepRows_0 rfl ?_
  refine x_aload_n C hl dX12_keepRows_1 rfl ?_
  have t1 := h.1
  replace h := h.2
  refine x_get C hW (t := 12) (k := 26) t1 kl_12 (by decide) fl_X12_344 (v := .int (mI σ l0 26)) rfl dX12_keepRows_2 ?_
  refine x_putI C hW hS (t := 12) (k := 33) t1 kl_12 (by decide) fl_X12_377 rfl rfl rfl rfl dX12_keepRows_5 (fun H locs hW hS => ?_)
  obtain ⟨s2, e_s2⟩ : ∃ z : Mem, z = (sI σ l0 33 (mI σ l0 26)) := ⟨_, rfl⟩
  replace h := h s2 e_s2
  replace hW : Wd G D tc b0 s2 H := by rw [e_s2]; exact hW
  refine lv_iconst (v := (0 : Int32)) hx hb dX12_keepRows_8 (by decide) ?_
  refine x_istore_n C hl dX12_keepRows_9 (by decide) rfl (fun ls hl => ?_)
  exact t_X12_keepRows_10 C hr hS hW (hl.keep [true, true] rfl) h
theorem T_X12_keepRows (l : Launch) {G : Lay} {D : va_G} {tc : Nat → ClassId} {b0 : Nat} (l0 : Nat) (σ : Mem) (Qx : Mem → Prop) (h : X_X12_keepRows G Qx l0 σ) : MV l yX12_keepRows cX12_keepRows 2 ((none : Option FieldType)) rm_X12_keepRows G D tc b0 [rv b0 l0] σ Qx :=
  x_entry (y := yX12_keepRows) [.inr (.inr l0)] 1 (by decide) (Nat.le_of_ble_eq_true rfl) (fun p e s m args below meth c ls C hr hW hl => t_X12_keepRows_0 C hr va_S.rf hW (hl.keep [true, false] rfl) h)
/-! X12_backRows -/
set_option maxRecDepth 20000 in
set_option maxHeartbeats 4000000 in
theorem t_X12_backRows_74_n {p : Program} {l : Launch} {e : Env} {s : State} {m : MethodId} {args : Array Value} {below : List Frame} {meth : Method} {c : Code} {D : va_G} {tc : Nat → ClassId} {b0 : Nat} {G : Lay} {Qx : Mem → Prop} {l0 : Nat} (C : Cx p s m args meth c cX12_backRows RX12 2 D tc b0) (hr : meth.sig.returnType = (none : Option FieldType)) (n : Nat) : ∀ (l1 : Int32) (σ : Mem) (H : Heap) (locs : List Loc) (ls : Array Slot), va_S (AA b0) s.heap H locs → Wd G D tc b0 σ H → hL b0 ls 2 [some (.inr (.inr l0)), some (.inl l1)] → Lp (X_X12_backRows_74_s G Qx l0) n (l1, σ) → W p l e rm_X12_backRows s m args below meth c H locs 0 0 (MQ below (va_Qv Qx (fun u t => Pw G D tc b0 u t) (AA b0)) args s 0 0 (AA b0)) (F0 m 74 ls []) := by
  have hx := C.1
  have hb := C.2.1
  induction n with
  | zero => intro l1 σ H locs ls hS hW hl h; exact False.elim h
  | succ n hK74 =>
    intro l1 σ H locs ls hS hW hl h
    replace h : X_X12_backRows_74_s G Qx l0 (Lp (X_X12_backRows_74_s G Qx l0) n) (l1, σ) := h
    unfold X_X12_backRows_74_s at h
    refine x_iload_n C hl dX12_backRows_74 rfl ?_
    refine lv_bipush (v := (16 : Int32)) hx hb dX12_backRows_75 (by decide) ?_
    refine x_aload_n C hl dX12_backRows_77 rfl ?_
    have t1 := h.1
    replace h := h.2
    refine x_get C hW (t := 12) (k := 26) t1 kl_12 (by decide) fl_X12_344 (v := .int (mI σ l0 26)) rfl dX12_backRows_78 ?_
    refine lv_imul hx hb dX12_backRows_81 ?_
    refine lv_icmp_ge hx hb dX12_backRows_82 (tgt := 103) rfl (fun hc => ?_) (fun hc => ?_)
    · replace h := h.1 hc
      exact r_v C hr hW hS h dX12_backRows_103
    · replace h := h.2 hc
      refine x_aload_n C hl dX12_backRows_85 rfl ?_
      refine x_get C hW (t := 12) (k := 31) t1 kl_12 (by decide) fl_X12_89 (v := rv b0 (mR σ l0 31)) rfl dX12_backRows_86 ?_
      refine x_iload_n C hl dX12_backRows_89 rfl ?_
      refine x_aload_n C hl dX12_backRows_90 rfl ?_
      refine x_get C hW (t := 12) (k := 38) t1 kl_12 (by decide) fl_X12_107 (v := rv b0 (mR σ l0 38)) rfl dX12_backRows_91 ?_
      refine x_iload_n C hl dX12_backRows_94 rfl ?_
      have t2 := h.1
      replace h := h.2
      have v3 := h.1
      replace h := h.2
      refine x_iald C hW t2 v3 dX12_backRows_95 ?_
      have t4 := h.1
      replace h := h.2
      have v5 := h.1
      replace h := h.2
      refine x_iast C hW hS t4 v5 dX12_backRows_96 (fun H locs hW hS => ?_)
      obtain ⟨s6, e_s6⟩ : ∃ z : Mem, z = (sI σ (mR σ l0 31) l1.toNatClampNeg (mI σ (mR σ l0 38) l1.toNatClampNeg)) := ⟨_, rfl⟩
      replace h := h s6 e_s6
      replace hW : Wd G D tc b0 s6 H := by rw [e_s6]; exact hW
      refine x_iinc C hl dX12_backRows_97 rfl (v := (1 : Int32)) (by decide) (by decide) rfl (fun ls hl => ?_)
      refine lv_goto hx hb dX12_backRows_100 (tgt := 74) rfl ?_
      exact hK74 _ _ _ _ _ hS hW (hl.keep [true, true] rfl) h
set_option maxRecDepth 20000 in
set_option maxHeartbeats 4000000 in
theorem t_X12_backRows_74 {p : Program} {l : Launch} {e : Env} {s : State} {m : MethodId} {args : Array Value} {below : List Frame} {meth : Method} {c : Code} {H : Heap} {locs : List Loc} {D : va_G} {tc : Nat → ClassId} {b0 : Nat} {ls : Array Slot} {G : Lay} {Qx : Mem → Prop} {l0 : Nat} {l1 : Int32}  {σ : Mem} (C : Cx p s m args meth c cX12_backRows RX12 2 D tc b0) (hr : meth.sig.returnType = (none : Option FieldType)) (hS : va_S (AA b0) s.heap H locs) (hW : Wd G D tc b0 σ H) (hl : hL b0 ls 2 [some (.inr (.inr l0)), some (.inl l1)]) (h : X_X12_backRows_74 G Qx l0 l1 σ) : W p l e rm_X12_backRows s m args below meth c H locs 0 0 (MQ below (va_Qv Qx (fun u t => Pw G D tc b0 u t) (AA b0)) args s 0 0 (AA b0)) (F0 m 74 ls []) := by
  obtain ⟨n, h⟩ := h
  exact t_X12_backRows_74_n C hr n l1 σ H locs ls hS hW hl h
set_option maxRecDepth 20000 in
set_option maxHeartbeats 4000000 in
theorem t_X12_backRows_10_n {p : Program} {l : Launch} {e : Env} {s : State} {m : MethodId} {args : Array Value} {below : List Frame} {meth : Method} {c : Code} {D : va_G} {tc : Nat → ClassId} {b0 : Nat} {G : Lay} {Qx : Mem → Prop} {l0 : Nat} (C : Cx p s m args meth c cX12_backRows RX12 2 D tc b0) (hr : meth.sig.returnType = (none : Option FieldType)) (n : Nat) : ∀ (l1 : Int32) (σ : Mem) (H : Heap) (locs : List Loc) (ls : Array Slot), va_S (AA b0) s.heap H locs → Wd G D tc b0 σ H → hL b0 ls 2 [some (.inr (.inr l0)), some (.inl l1)] → Lp (X_X12_backRows_10_s G Qx l0) n (l1, σ) → W p l e rm_X12_backRows s m args below meth c H locs 0 0 (MQ below (va_Qv Qx (fun u t => Pw G D tc b0 u t) (AA b0)) args s 0 0 (AA b0)) (F0 m 10 ls []) := by
  have hx := C.1
  have hb := C.2.1
  induction n with
  | zero => intro l1 σ H locs ls hS hW hl h; exact False.elim h
  | succ n hK10 =>
    intro l1 σ H locs ls hS hW hl h
    replace h : X_X12_backRows_10_s G Qx l0 (Lp (X_X12_backRows_10_s G Qx l0) n) (l1, σ) := h
    unfold X_X12_backRows_10_s at h
    refine x_iload_n C hl dX12_backRows_10 rfl ?_
    refine x_aload_n C hl dX12_backRows_11 rfl ?_
    have t1 := h.1
    replace h := h.2
    refine x_get C hW (t := 12) (k := 26) t1 kl_12 (by decide) fl_X12_344 (v := .int (mI σ l0 26)) rfl dX12_backRows_12 ?_
    refine lv_icmp_ge hx hb dX12_backRows_15 (tgt := 72) rfl (fun hc => ?_) (fun hc => ?_)
    · replace h := h.1 hc
      refine lv_iconst (v := (0 : Int32)) hx hb dX12_backRows_72 (by decide) ?_
      refine x_istore_n C hl dX12_backRows_73 (by decide) rfl (fun ls hl => ?_)
      exact t_X12_backRows_74 C hr hS hW (hl.keep [true, true] rfl) h
    · replace h := h.2 hc
      refine x_aload_n C hl dX12_backRows_18 rfl ?_
      refine x_get C hW (t := 12) (k := 27) t1 kl_12 (by decide) fl_X12_77 (v := rv b0 (mR σ l0 27)) rfl dX12_backRows_19 ?_
      refine x_iload_n C hl dX12_backRows_22 rfl ?_
      refine x_aload_n C hl dX12_backRows_23 rfl ?_
      refine x_get C hW (t := 12) (k := 34) t1 kl_12 (by decide) fl_X12_95 (v := rv b0 (mR σ l0 34)) rfl dX12_backRows_24 ?_
      refine x_iload_n C hl dX12_backRows_27 rfl ?_
      have t2 := h.1
      replace h := h.2
      have v3 := h.1
      replace h := h.2
      refine x_iald C hW t2 v3 dX12_backRows_28 ?_
      have t4 := h.1
      replace h := h.2
      have v5 := h.1
      replace h := h.2
      refine x_iast C hW hS t4 v5 dX12_backRows_29 (fun H locs hW hS => ?_)
      obtain ⟨s6, e_s6⟩ : ∃ z : Mem, z = (sI σ (mR σ l0 27) l1.toNatClampNeg (mI σ (mR σ l0 34) l1.toNatClampNeg)) := ⟨_, rfl⟩
      replace h := h s6 e_s6
      replace hW : Wd G D tc b0 s6 H := by rw [e_s6]; exact hW
      refine x_aload_n C hl dX12_backRows_30 rfl ?_
      refine x_get C hW (t := 12) (k := 28) t1 kl_12 (by decide) fl_X12_80 (v := rv b0 (mR s6 l0 28)) rfl dX12_backRows_31 ?_
      refine x_iload_n C hl dX12_backRows_34 rfl ?_
      refine x_aload_n C hl dX12_backRows_35 rfl ?_
      refine x_get C hW (t := 12) (k := 35) t1 kl_12 (by decide) fl_X12_98 (v := rv b0 (mR s6 l0 35)) rfl dX12_backRows_36 ?_
      refine x_iload_n C hl dX12_backRows_39 rfl ?_
      have t7 := h.1
      replace h := h.2
      have v8 := h.1
      replace h := h.2
      refine x_iald C hW t7 v8 dX12_backRows_40 ?_
      have t9 := h.1
      replace h := h.2
      have v10 := h.1
      replace h := h.2
      refine x_iast C hW hS t9 v10 dX12_backRows_41 (fun H locs hW hS => ?_)
      obtain ⟨s11, e_s11⟩ : ∃ z : Mem, z = (sI s6 (mR s6 l0 28) l1.toNatClampNeg (mI s6 (mR s6 l0 35) l1.toNatClampNeg)) := ⟨_, rfl⟩
      replace h := h s11 e_s11
      replace hW : Wd G D tc b0 s11 H := by rw [e_s11]; exact hW
      refine x_aload_n C hl dX12_backRows_42 rfl ?_
      refine x_get C hW (t := 12) (k := 29) t1 kl_12 (by decide) fl_X12_83 (v := rv b0 (mR s11 l0 29)) rfl dX12_backRows_43 ?_
      refine x_iload_n C hl dX12_backRows_46 rfl ?_
      refine x_aload_n C hl dX12_backRows_47 rfl ?_
      refine x_get C hW (t := 12) (k := 36) t1 kl_12 (by decide) fl_X12_101 (v := rv b0 (mR s11 l0 36)) rfl dX12_backRows_48 ?_
      refine x_iload_n C hl dX12_backRows_51 rfl ?_
      have t12 := h.1
      replace h := h.2
      have v13 := h.1
      replace h := h.2
      refine x_iald C hW t12 v13 dX12_backRows_52 ?_
      have t14 := h.1
      replace h := h.2
      have v15 := h.1
      replace h := h.2
      refine x_iast C hW hS t14 v15 dX12_backRows_53 (fun H locs hW hS => ?_)
      obtain ⟨s16, e_s16⟩ : ∃ z : Mem, z = (sI s11 (mR s11 l0 29) l1.toNatClampNeg (mI s11 (mR s11 l0 36) l1.toNatClampNeg)) := ⟨_, rfl⟩
      replace h := h s16 e_s16
      replace hW : Wd G D tc b0 s16 H := by rw [e_s16]; exact hW
      refine x_aload_n C hl dX12_backRows_54 rfl ?_
      refine x_get C hW (t := 12) (k := 30) t1 kl_12 (by decide) fl_X12_86 (v := rv b0 (mR s16 l0 30)) rfl dX12_backRows_55 ?_
      refine x_iload_n C hl dX12_backRows_58 rfl ?_
      refine x_aload_n C hl dX12_backRows_59 rfl ?_
      refine x_get C hW (t := 12) (k := 37) t1 kl_12 (by decide) fl_X12_104 (v := rv b0 (mR s16 l0 37)) rfl dX12_backRows_60 ?_
      refine x_iload_n C hl dX12_backRows_63 rfl ?_
      have t17 := h.1
      replace h := h.2
      have v18 := h.1
      replace h := h.2
      refine x_iald C hW t17 v18 dX12_backRows_64 ?_
      have t19 := h.1
      replace h := h.2
      have v20 := h.1
      replace h := h.2
      refine x_iast C hW hS t19 v20 dX12_backRows_65 (fun H locs hW hS => ?_)
      obtain ⟨s21, e_s21⟩ : ∃ z : Mem, z = (sI s16 (mR s16 l0 30) l1.toNatClampNeg (mI s16 (mR s16 l0 37) l1.toNatClampNeg)) := ⟨_, rfl⟩
      replace h := h s21 e_s21
      replace hW : Wd G D tc b0 s21 H := by rw [e_s21]; exact hW
      refine x_iinc C hl dX12_backRows_66 rfl (v := (1 : Int32)) (by decide) (by decide) rfl (fun ls hl => ?_)
      refine lv_goto hx hb dX12_backRows_69 (tgt := 10) rfl ?_
      exact hK10 _ _ _ _ _ hS hW (hl.keep [true, true] rfl) h
set_option maxRecDepth 20000 in
set_option maxHeartbeats 4000000 in
theorem t_X12_backRows_10 {p : Program} {l : Launch} {e : Env} {s : State} {m : MethodId} {args : Array Value} {below : List Frame} {meth : Method} {c : Code} {H : Heap} {locs : List Loc} {D : va_G} {tc : Nat → ClassId} {b0 : Nat} {ls : Array Slot} {G : Lay} {Qx : Mem → Prop} {l0 : Nat} {l1 : Int32}  {σ : Mem} (C : Cx p s m args meth c cX12_backRows RX12 2 D tc b0) (hr : meth.sig.returnType = (none : Option FieldType)) (hS : va_S (AA b0) s.heap H locs) (hW : Wd G D tc b0 σ H) (hl : hL b0 ls 2 [some (.inr (.inr l0)), some (.inl l1)]) (h : X_X12_backRows_10 G Qx l0 l1 σ) : W p l e rm_X12_backRows s m args below meth c H locs 0 0 (MQ below (va_Qv Qx (fun u t => Pw G D tc b0 u t) (AA b0)) args s 0 0 (AA b0)) (F0 m 10 ls []) := by
  obtain ⟨n, h⟩ := h
  exact t_X12_backRows_10_n C hr n l1 σ H locs ls hS hW hl h
set_option maxRecDepth 20000 in
set_option maxHeartbeats 4000000 in
theorem t_X12_backRows_0 {p : Program} {l : Launch} {e : Env} {s : State} {m : MethodId} {args : Array Value} {below : List Frame} {meth : Method} {c : Code} {H : Heap} {locs : List Loc} {D : va_G} {tc : Nat → ClassId} {b0 : Nat} {ls : Array Slot} {G : Lay} {Qx : Mem → Prop} {l0 : Nat}  {σ : Mem} (C : Cx p s m args meth c cX12_backRows RX12 2 D tc b0) (hr : meth.sig.returnType = (none : Option FieldType)) (hS : va_S (AA b0) s.heap H locs) (hW : Wd G D tc b0 σ H) (hl : hL b0 ls 2 [some (.inr (.inr l0)), none]) (h : X_X12_backRows_0 G Qx l0  σ) : W p l e rm_X12_backRows s m args below meth c H locs 0 0 (MQ below (va_Qv Qx (fun u t => Pw G D tc b0 u t) (AA b0)) args s 0 0 (AA b0)) (F0 m 0 ls []) := by
  have hx := C.1
  have hb := C.2.1
  unfold X_X12_backRows_0 at h
  refine x_aload_n C hl dX12_backRows_0 rfl ?_
  refine x_aload_n C hl dX12_backRows_1 rfl ?_
  have t1 := h.1
  replace h := h.2
  refine x_get C hW (t := 12) (k := 33) t1 kl_12 (by decide) fl_X12_377 (v := .int (mI σ l0 33)) rfl dX12_backRows_2 ?_
  refine x_putI C hW hS (t := 12) (k := 26) t1 kl_12 (by decide) fl_X12_344 rfl rfl rfl rfl dX12_backRows_5 (fun H locs hW hS => ?_)
  obtain ⟨s2, e_s2⟩ : ∃ z : Mem, z = (sI σ l0 26 (mI σ l0 33)) := ⟨_, rfl⟩
  replace h := h s2 e_s2
  replace hW : Wd G D tc b0 s2 H := by rw [e_s2]; exact hW
  refine lv_iconst (v := (0 : Int32)) hx hb dX12_backRows_8 (by decide) ?_
  refine x_istore_n C hl dX12_backRows_9 (by decide) rfl (fun ls hl => ?_)
  exact t_X12_backRows_10 C hr hS hW (hl.keep [true, true] rfl) h
theorem T_X12_backRows (l : Launch) {G : Lay} {D : va_G} {tc : Nat → ClassId} {b0 : Nat} (l0 : Nat) (σ : Mem) (Qx : Mem → Prop) (h : X_X12_backRows G Qx l0 σ) : MV l yX12_backRows cX12_backRows 2 ((none : Option FieldType)) rm_X12_backRows G D tc b0 [rv b0 l0] σ Qx :=
  x_entry (y := yX12_backRows) [.inr (.inr l0)] 1 (by decide) (Nat.le_of_ble_eq_true rfl) (fun p e s m args below meth c ls C hr hW hl => t_X12_backRows_0 C hr va_S.rf hW (hl.keep [true, false] rfl) h)
/-! X12_isValue -/
set_option maxRecDepth 20000 in
set_option maxHeartbeats 4000000 in
theorem t_X12_isValue_63 {p : Program} {l : Launch} {e : Env} {s : State} {m : MethodId} {args : Array Value} {below : List Frame} {meth : Method} {c : Code} {H : Heap} {locs : List Loc} {D : va_G} {tc : Nat → ClassId} {b0 : Nat} {ls : Array Slot} {G : Lay} {Qx : Int32 → Mem → Prop}  {k0 : Int32} {σ : Mem} (C : Cx p s m args meth c cX12_isValue RX12 5 D tc b0) (hr : meth.sig.returnType = (some FieldType.boolean)) (hS : va_S (AA b0) s.heap H locs) (hW : Wd G D tc b0 σ H) (hl : hL b0 ls 5 [none, none, none, none, none]) (h : X_X12_isValue_63 G Qx  k0 σ) : W p l e rm_X12_isValue s m args below meth c H locs 0 0 (MQ below (va_Qi Qx (fun u t => Pw G D tc b0 u t) (AA b0)) args s 0 0 (AA b0)) (F0 m 63 ls [.int k0]) := by
  have hx := C.1
  have hb := C.2.1
  unfold X_X12_isValue_63 at h
  exact r_z C hr hW hS h.1 h.2 dX12_isValue_63
set_option maxRecDepth 20000 in
set_option maxHeartbeats 4000000 in
theorem t_X12_isValue_62 {p : Program} {l : Launch} {e : Env} {s : State} {m : MethodId} {args : Array Value} {below : List Frame} {meth : Method} {c : Code} {H : Heap} {locs : List Loc} {D : va_G} {tc : Nat → ClassId} {b0 : Nat} {ls : Array Slot} {G : Lay} {Qx : Int32 → Mem → Prop}   {σ : Mem} (C : Cx p s m args meth c cX12_isValue RX12 5 D tc b0) (hr : meth.sig.returnType = (some FieldType.boolean)) (hS : va_S (AA b0) s.heap H locs) (hW : Wd G D tc b0 σ H) (hl : hL b0 ls 5 [none, none, none, none, none]) (h : X_X12_isValue_62 G Qx   σ) : W p l e rm_X12_isValue s m args below meth c H locs 0 0 (MQ below (va_Qi Qx (fun u t => Pw G D tc b0 u t) (AA b0)) args s 0 0 (AA b0)) (F0 m 62 ls []) := by
  have hx := C.1
  have hb := C.2.1
  unfold X_X12_isValue_62 at h
  refine lv_iconst (v := (0 : Int32)) hx hb dX12_isValue_62 (by decide) ?_
  exact t_X12_isValue_63 C hr hS hW (hl.keep [false, false, false, false, false] rfl) h
set_option maxRecDepth 20000 in
set_option maxHeartbeats 4000000 in
theorem t_X12_isValue_78 {p : Program} {l : Launch} {e : Env} {s : State} {m : MethodId} {args : Array Value} {below : List Frame} {meth : Method} {c : Code} {H : Heap} {locs : List Loc} {D : va_G} {tc : Nat → ClassId} {b0 : Nat} {ls : Array Slot} {G : Lay} {Qx : Int32 → Mem → Prop}  {k0 : Int32} {σ : Mem} (C : Cx p s m args meth c cX12_isValue RX12 5 D tc b0) (hr : meth.sig.returnType = (some FieldType.boolean)) (hS : va_S (AA b0) s.heap H locs) (hW : Wd G D tc b0 σ H) (hl : hL b0 ls 5 [none, none, none, none, none]) (h : X_X12_isValue_78 G Qx  k0 σ) : W p l e rm_X12_isValue s m args below meth c H locs 0 0 (MQ below (va_Qi Qx (fun u t => Pw G D tc b0 u t) (AA b0)) args s 0 0 (AA b0)) (F0 m 78 ls [.int k0]) := by
  have hx := C.1
  have hb := C.2.1
  unfold X_X12_isValue_78 at h
  exact r_z C hr hW hS h.1 h.2 dX12_isValue_78
set_option maxRecDepth 20000 in
set_option maxHeartbeats 4000000 in
theorem t_X12_isValue_73 {p : Program} {l : Launch} {e : Env} {s : State} {m : MethodId} {args : Array Value} {below : List Frame} {meth : Method} {c : Code} {H : Heap} {locs : List Loc} {D : va_G} {tc : Nat → ClassId} {b0 : Nat} {ls : Array Slot} {G : Lay} {Qx : Int32 → Mem → Prop}   {σ : Mem} (C : Cx p s m args meth c cX12_isValue RX12 5 D tc b0) (hr : meth.sig.returnType = (some FieldType.boolean)) (hS : va_S (AA b0) s.heap H locs) (hW : Wd G D tc b0 σ H) (hl : hL b0 ls 5 [none, none, none, none, none]) (h : X_X12_isValue_73 G Qx   σ) : W p l e rm_X12_isValue s m args below meth c H locs 0 0 (MQ below (va_Qi Qx (fun u t => Pw G D tc b0 u t) (AA b0)) args s 0 0 (AA b0)) (F0 m 73 ls []) := by
  have hx := C.1
  have hb := C.2.1
  unfold X_X12_isValue_73 at h
  refine lv_iconst (v := (1 : Int32)) hx hb dX12_isValue_73 (by decide) ?_
  refine lv_goto hx hb dX12_isValue_74 (tgt := 78) rfl ?_
  exact t_X12_isValue_78 C hr hS hW (hl.keep [false, false, false, false, false] rfl) h
set_option maxRecDepth 20000 in
set_option maxHeartbeats 4000000 in
theorem t_X12_isValue_99 {p : Program} {l : Launch} {e : Env} {s : State} {m : MethodId} {args : Array Value} {below : List Frame} {meth : Method} {c : Code} {H : Heap} {locs : List Loc} {D : va_G} {tc : Nat → ClassId} {b0 : Nat} {ls : Array Slot} {G : Lay} {Qx : Int32 → Mem → Prop}  {k0 : Int32} {σ : Mem} (C : Cx p s m args meth c cX12_isValue RX12 5 D tc b0) (hr : meth.sig.returnType = (some FieldType.boolean)) (hS : va_S (AA b0) s.heap H locs) (hW : Wd G D tc b0 σ H) (hl : hL b0 ls 5 [none, none, none, none, none]) (h : X_X12_isValue_99 G Qx  k0 σ) : W p l e rm_X12_isValue s m args below meth c H locs 0 0 (MQ below (va_Qi Qx (fun u t => Pw G D tc b0 u t) (AA b0)) args s 0 0 (AA b0)) (F0 m 99 ls [.int k0]) := by
  have hx := C.1
  have hb := C.2.1
  unfold X_X12_isValue_99 at h
  exact r_z C hr hW hS h.1 h.2 dX12_isValue_99
set_option maxRecDepth 20000 in
set_option maxHeartbeats 4000000 in
theorem t_X12_isValue_98 {p : Program} {l : Launch} {e : Env} {s : State} {m : MethodId} {args : Array Value} {below : List Frame} {meth : Method} {c : Code} {H : Heap} {locs : List Loc} {D : va_G} {tc : Nat → ClassId} {b0 : Nat} {ls : Array Slot} {G : Lay} {Qx : Int32 → Mem → Prop}   {σ : Mem} (C : Cx p s m args meth c cX12_isValue RX12 5 D tc b0) (hr : meth.sig.returnType = (some FieldType.boolean)) (hS : va_S (AA b0) s.heap H locs) (hW : Wd G D tc b0 σ H) (hl : hL b0 ls 5 [none, none, none, none, none]) (h : X_X12_isValue_98 G Qx   σ) : W p l e rm_X12_isValue s m args below meth c H locs 0 0 (MQ below (va_Qi Qx (fun u t => Pw G D tc b0 u t) (AA b0)) args s 0 0 (AA b0)) (F0 m 98 ls []) := by
  have hx := C.1
  have hb := C.2.1
  unfold X_X12_isValue_98 at h
  refine lv_iconst (v := (0 : Int32)) hx hb dX12_isValue_98 (by decide) ?_
  exact t_X12_isValue_99 C hr hS hW (hl.keep [false, false, false, false, false] rfl) h
set_option maxRecDepth 20000 in
set_option maxHeartbeats 4000000 in
theorem t_X12_isValue_0 {p : Program} {l : Launch} {e : Env} {s : State} {m : MethodId} {args : Array Value} {below : List Frame} {meth : Method} {c : Code} {H : Heap} {locs : List Loc} {D : va_G} {tc : Nat → ClassId} {b0 : Nat} {ls : Array Slot} {G : Lay} {Qx : Int32 → Mem → Prop} {l0 : Nat} {l1 : Int32} {l2 : Int32} {l3 : Int32}  {σ : Mem} (C : Cx p s m args meth c cX12_isValue RX12 5 D tc b0) (hr : meth.sig.returnType = (some FieldType.boolean)) (hS : va_S (AA b0) s.heap H locs) (hW : Wd G D tc b0 σ H) (hl : hL b0 ls 5 [some (.inr (.inr l0)), some (.inl l1), some (.inl l2), some (.inl l3), none]) (h : X_X12_isValue_0 G Qx l0 l1 l2 l3  σ) : W p l e rm_X12_isValue s m args below meth c H locs 0 0 (MQ below (va_Qi Qx (fun u t => Pw G D tc b0 u t) (AA b0)) args s 0 0 (AA b0)) (F0 m 0 ls []) := by
  have hx := C.1
  have hb := C.2.1
  unfold X_X12_isValue_0 at h
  refine lv_bipush (v := (16 : Int32)) hx hb dX12_isValue_0 (by decide) ?_
  refine x_iload_n C hl dX12_isValue_2 rfl ?_
  refine lv_imul hx hb dX12_isValue_3 ?_
  refine x_iload_n C hl dX12_isValue_4 rfl ?_
  refine lv_iadd hx hb dX12_isValue_5 ?_
  refine x_istore C hl dX12_isValue_6 (by decide) rfl (fun ls hl => ?_)
  refine x_aload_n C hl dX12_isValue_8 rfl ?_
  have t1 := h.1
  replace h := h.2
  refine x_get C hW (t := 12) (k := 9) t1 kl_12 (by decide) fl_X12_32 (v := rv b0 (mR σ l0 9)) rfl dX12_isValue_9 ?_
  refine x_iload C hl dX12_isValue_12 rfl ?_
  have t2 := h.1
  replace h := h.2
  have v3 := h.1
  replace h := h.2
  refine x_iald C hW t2 v3 dX12_isValue_14 ?_
  by_cases hc0 : (mI σ (mR σ l0 9) (((16 : Int32) * l1) + l2).toNatClampNeg) = 0
  · replace h := h.1 hc0
    rw [hc0]
    refine lv_tableIn hx hb dX12_isValue_15 (by decide) (by decide) (off := 29) rfl (tgt := 44) rfl ?_
    refine lv_iconst (v := (1 : Int32)) hx hb dX12_isValue_44 (by decide) ?_
    exact r_z C hr hW hS h.1 h.2 dX12_isValue_45
  replace h := h.2
  by_cases hc1 : (mI σ (mR σ l0 9) (((16 : Int32) * l1) + l2).toNatClampNeg) = 1
  · replace h := h.1 hc1
    rw [hc1]
    refine lv_tableIn hx hb dX12_isValue_15 (by decide) (by decide) (off := 31) rfl (tgt := 46) rfl ?_
    refine x_iload_n C hl dX12_isValue_46 rfl ?_
    refine lv_bipush (v := (-128 : Int32)) hx hb dX12_isValue_47 (by decide) ?_
    refine lv_icmp_lt hx hb dX12_isValue_49 (tgt := 62) rfl (fun hc => ?_) (fun hc => ?_)
    · replace h := h.1 hc
      exact t_X12_isValue_62 C hr hS hW (hl.keep [false, false, false, false, false] rfl) h
    · replace h := h.2 hc
      refine x_iload_n C hl dX12_isValue_52 rfl ?_
      refine lv_bipush (v := (127 : Int32)) hx hb dX12_isValue_53 (by decide) ?_
      refine lv_icmp_gt hx hb dX12_isValue_55 (tgt := 62) rfl (fun hc => ?_) (fun hc => ?_)
      · replace h := h.1 hc
        exact t_X12_isValue_62 C hr hS hW (hl.keep [false, false, false, false, false] rfl) h
      · replace h := h.2 hc
        refine lv_iconst (v := (1 : Int32)) hx hb dX12_isValue_58 (by decide) ?_
        refine lv_goto hx hb dX12_isValue_59 (tgt := 63) rfl ?_
        exact t_X12_isValue_63 C hr hS hW (hl.keep [false, false, false, false, false] rfl) h
  replace h := h.2
  by_cases hc2 : (mI σ (mR σ l0 9) (((16 : Int32) * l1) + l2).toNatClampNeg) = 2
  · replace h := h.1 hc2
    rw [hc2]
    refine lv_tableIn hx hb dX12_isValue_15 (by decide) (by decide) (off := 49) rfl (tgt := 64) rfl ?_
    refine x_iload_n C hl dX12_isValue_64 rfl ?_
    refine lv_if_eq hx hb dX12_isValue_65 (tgt := 73) rfl (fun hc => ?_) (fun hc => ?_)
    · replace h := h.1 hc
      exact t_X12_isValue_73 C hr hS hW (hl.keep [false, false, false, false, false] rfl) h
    · replace h := h.2 hc
      refine x_iload_n C hl dX12_isValue_68 rfl ?_
      refine lv_iconst (v := (1 : Int32)) hx hb dX12_isValue_69 (by decide) ?_
      refine lv_icmp_ne hx hb dX12_isValue_70 (tgt := 77) rfl (fun hc => ?_) (fun hc => ?_)
      · replace h := h.2 hc
        refine lv_iconst (v := (0 : Int32)) hx hb dX12_isValue_77 (by decide) ?_
        exact t_X12_isValue_78 C hr hS hW (hl.keep [false, false, false, false, false] rfl) h
      · replace h := h.1 hc
        exact t_X12_isValue_73 C hr hS hW (hl.keep [false, false, false, false, false] rfl) h
  replace h := h.2
  by_cases hc3 : (mI σ (mR σ l0 9) (((16 : Int32) * l1) + l2).toNatClampNeg) = 3
  · replace h := h.1 hc3
    rw [hc3]
    refine lv_tableIn hx hb dX12_isValue_15 (by decide) (by decide) (off := 64) rfl (tgt := 79) rfl ?_
    refine x_iload_n C hl dX12_isValue_79 rfl ?_
    refine lv_if_lt hx hb dX12_isValue_80 (tgt := 98) rfl (fun hc => ?_) (fun hc => ?_)
    · replace h := h.1 hc
      exact t_X12_isValue_98 C hr hS hW (hl.keep [false, false, false, false, false] rfl) h
    · replace h := h.2 hc
      refine x_iload_n C hl dX12_isValue_83 rfl ?_
      refine x_aload_n C hl dX12_isValue_84 rfl ?_
      refine x_get C hW (t := 12) (k := 12) t1 kl_12 (by decide) fl_X12_41 (v := rv b0 (mR σ l0 12)) rfl dX12_isValue_85 ?_
      refine x_iload C hl dX12_isValue_88 rfl ?_
      have t4 := h.1
      replace h := h.2
      have v5 := h.1
      replace h := h.2
      refine x_iald C hW t4 v5 dX12_isValue_90 ?_
      refine lv_icmp_ge hx hb dX12_isValue_91 (tgt := 98) rfl (fun hc => ?_) (fun hc => ?_)
      · replace h := h.1 hc
        exact t_X12_isValue_98 C hr hS hW (hl.keep [false, false, false, false, false] rfl) h
      · replace h := h.2 hc
        refine lv_iconst (v := (1 : Int32)) hx hb dX12_isValue_94 (by decide) ?_
        refine lv_goto hx hb dX12_isValue_95 (tgt := 99) rfl ?_
        exact t_X12_isValue_99 C hr hS hW (hl.keep [false, false, false, false, false] rfl) h
  replace h := h.2
  replace h := h ⟨hc0, hc1, hc2, hc3⟩
  refine lv_tableOut hx hb dX12_isValue_15 (tb_out4 hc0 hc1 hc2 hc3) (tgt := 100) rfl ?_
  refine lv_iconst (v := (0 : Int32)) hx hb dX12_isValue_100 (by decide) ?_
  exact r_z C hr hW hS h.1 h.2 dX12_isValue_101
theorem T_X12_isValue (l : Launch) {G : Lay} {D : va_G} {tc : Nat → ClassId} {b0 : Nat} (l0 : Nat) (l1 : Int32) (l2 : Int32) (l3 : Int32) (σ : Mem) (Qx : Int32 → Mem → Prop) (h : X_X12_isValue G Qx l0 l1 l2 l3 σ) : MI l yX12_isValue cX12_isValue 5 ((some FieldType.boolean)) rm_X12_isValue G D tc b0 [rv b0 l0, .int l1, .int l2, .int l3] σ Qx :=
  x_entry (y := yX12_isValue) [.inr (.inr l0), .inl l1, .inl l2, .inl l3] 1 (by decide) (Nat.le_of_ble_eq_true rfl) (fun p e s m args below meth c ls C hr hW hl => t_X12_isValue_0 C hr va_S.rf hW (hl.keep [true, true, true, true, false] rfl) h)
/-! X12_isUnit -/
set_option maxRecDepth 20000 in
set_option maxHeartbeats 4000000 in
theorem t_X12_isUnit_23 {p : Program} {l : Launch} {e : Env} {s : State} {m : MethodId} {args : Array Value} {below : List Frame} {meth : Method} {c : Code} {H : Heap} {locs : List Loc} {D : va_G} {tc : Nat → ClassId} {b0 : Nat} {ls : Array Slot} {G : Lay} {Qx : Int32 → Mem → Prop}  {k0 : Int32} {σ : Mem} (C : Cx p s m args meth c cX12_isUnit RX12 2 D tc b0) (hr : meth.sig.returnType = (some FieldType.boolean)) (hS : va_S (AA b0) s.heap H locs) (hW : Wd G D tc b0 σ H) (hl : hL b0 ls 2 [none, none]) (h : X_X12_isUnit_23 G Qx  k0 σ) : W p l e rm_X12_isUnit s m args below meth c H locs 0 0 (MQ below (va_Qi Qx (fun u t => Pw G D tc b0 u t) (AA b0)) args s 0 0 (AA b0)) (F0 m 23 ls [.int k0]) := by
  have hx := C.1
  have hb := C.2.1
  unfold X_X12_isUnit_23 at h
  exact r_z C hr hW hS h.1 h.2 dX12_isUnit_23
set_option maxRecDepth 20000 in
set_option maxHeartbeats 4000000 in
theorem t_X12_isUnit_22 {p : Program} {l : Launch} {e : Env} {s : State} {m : MethodId} {args : Array Value} {below : List Frame} {meth : Method} {c : Code} {H : Heap} {locs : List Loc} {D : va_G} {tc : Nat → ClassId} {b0 : Nat} {ls : Array Slot} {G : Lay} {Qx : Int32 → Mem → Prop}   {σ : Mem} (C : Cx p s m args meth c cX12_isUnit RX12 2 D tc b0) (hr : meth.sig.returnType = (some FieldType.boolean)) (hS : va_S (AA b0) s.heap H locs) (hW : Wd G D tc b0 σ H) (hl : hL b0 ls 2 [none, none]) (h : X_X12_isUnit_22 G Qx   σ) : W p l e rm_X12_isUnit s m args below meth c H locs 0 0 (MQ below (va_Qi Qx (fun u t => Pw G D tc b0 u t) (AA b0)) args s 0 0 (AA b0)) (F0 m 22 ls []) := by
  have hx := C.1
  have hb := C.2.1
  unfold X_X12_isUnit_22 at h
  refine lv_iconst (v := (0 : Int32)) hx hb dX12_isUnit_22 (by decide) ?_
  exact t_X12_isUnit_23 C hr hS hW (hl.keep [false, false] rfl) h
set_option maxRecDepth 20000 in
set_option maxHeartbeats 4000000 in
theorem t_X12_isUnit_0 {p : Program} {l : Launch} {e : Env} {s : State} {m : MethodId} {args : Array Value} {below : List Frame} {meth : Method} {c : Code} {H : Heap} {locs : List Loc} {D : va_G} {tc : Nat → ClassId} {b0 : Nat} {ls : Array Slot} {G : Lay} {Qx : Int32 → Mem → Prop} {l0 : Nat} {l1 : Int32}  {σ : Mem} (C : Cx p s m args meth c cX12_isUnit RX12 2 D tc b0) (hr : meth.sig.returnType = (some FieldType.boolean)) (hS : va_S (AA b0) s.heap H locs) (hW : Wd G D tc b0 σ H) (hl : hL b0 ls 2 [some (.inr (.inr l0)), some (.inl l1)]) (h : X_X12_isUnit_0 G Qx l0 l1  σ) : W p l e rm_X12_isUnit s m args below meth c H locs 0 0 (MQ below (va_Qi Qx (fun u t => Pw G D tc b0 u t) (AA b0)) args s 0 0 (AA b0)) (F0 m 0 ls []) := by
  have hx := C.1
  have hb := C.2.1
  unfold X_X12_isUnit_0 at h
  refine x_iload_n C hl dX12_isUnit_0 rfl ?_
  refine lv_if_lt hx hb dX12_isUnit_1 (tgt := 22) rfl (fun hc => ?_) (fun hc => ?_)
  · replace h := h.1 hc
    exact t_X12_isUnit_22 C hr hS hW (hl.keep [false, false] rfl) h
  · replace h := h.2 hc
    refine x_iload_n C hl dX12_isUnit_4 rfl ?_
    refine lv_iconst (v := (4 : Int32)) hx hb dX12_isUnit_5 (by decide) ?_
    refine lv_icmp_ge hx hb dX12_isUnit_6 (tgt := 22) rfl (fun hc => ?_) (fun hc => ?_)
    · replace h := h.1 hc
      exact t_X12_isUnit_22 C hr hS hW (hl.keep [false, false] rfl) h
    · replace h := h.2 hc
      refine x_aload_n C hl dX12_isUnit_9 rfl ?_
      have t1 := h.1
      replace h := h.2
      refine x_get C hW (t := 12) (k := 39) t1 kl_12 (by decide) fl_X12_110 (v := rv b0 (mR σ l0 39)) rfl dX12_isUnit_10 ?_
      refine x_iload_n C hl dX12_isUnit_13 rfl ?_
      have t2 := h.1
      replace h := h.2
      have v3 := h.1
      replace h := h.2
      refine x_zald C hW t2 v3 dX12_isUnit_14 ?_
      refine lv_if_eq hx hb dX12_isUnit_15 (tgt := 22) rfl (fun hc => ?_) (fun hc => ?_)
      · replace h := h.1 hc
        exact t_X12_isUnit_22 C hr hS hW (hl.keep [false, false] rfl) h
      · replace h := h.2 hc
        refine lv_iconst (v := (1 : Int32)) hx hb dX12_isUnit_18 (by decide) ?_
        refine lv_goto hx hb dX12_isUnit_19 (tgt := 23) rfl ?_
        exact t_X12_isUnit_23 C hr hS hW (hl.keep [false, false] rfl) h
theorem T_X12_isUnit (l : Launch) {G : Lay} {D : va_G} {tc : Nat → ClassId} {b0 : Nat} (l0 : Nat) (l1 : Int32) (σ : Mem) (Qx : Int32 → Mem → Prop) (h : X_X12_isUnit G Qx l0 l1 σ) : MI l yX12_isUnit cX12_isUnit 2 ((some FieldType.boolean)) rm_X12_isUnit G D tc b0 [rv b0 l0, .int l1] σ Qx :=
  x_entry (y := yX12_isUnit) [.inr (.inr l0), .inl l1] 0 (by decide) (Nat.le_of_ble_eq_true rfl) (fun p e s m args below meth c ls C hr hW hl => t_X12_isUnit_0 C hr va_S.rf hW (hl.keep [true, true] rfl) h)
/-! X12_unit -/
set_option maxRecDepth 20000 in
set_option maxHeartbeats 4000000 in
theorem t_X12_unit_2_n {p : Program} {l : Launch} {e : Env} {s : State} {m : MethodId} {args : Array Value} {below : List Frame} {meth : Method} {c : Code} {D : va_G} {tc : Nat → ClassId} {b0 : Nat} {G : Lay} {Qx : Int32 → Mem → Prop} {l0 : Nat} (C : Cx p s m args meth c cX12_unit RX12 2 D tc b0) (hr : meth.sig.returnType = (some FieldType.int)) (n : Nat) : ∀ (l1 : Int32) (σ : Mem) (H : Heap) (locs : List Loc) (ls : Array Slot), va_S (AA b0) s.heap H locs → Wd G D tc b0 σ H → hL b0 ls 2 [some (.inr (.inr l0)), some (.inl l1)] → Lp (X_X12_unit_2_s G Qx l0) n (l1, σ) → W p l e rm_X12_unit s m args below meth c H locs 0 0 (MQ below (va_Qi Qx (fun u t => Pw G D tc b0 u t) (AA b0)) args s 0 0 (AA b0)) (F0 m 2 ls []) := by
  have hx := C.1
  have hb := C.2.1
  induction n with
  | zero => intro l1 σ H locs ls hS hW hl h; exact False.elim h
  | succ n hK2 =>
    intro l1 σ H locs ls hS hW hl h
    replace h : X_X12_unit_2_s G Qx l0 (Lp (X_X12_unit_2_s G Qx l0) n) (l1, σ) := h
    unfold X_X12_unit_2_s at h
    refine x_iload_n C hl dX12_unit_2 rfl ?_
    refine lv_iconst (v := (4 : Int32)) hx hb dX12_unit_3 (by decide) ?_
    refine lv_icmp_ge hx hb dX12_unit_4 (tgt := 48) rfl (fun hc => ?_) (fun hc => ?_)
    · replace h := h.1 hc
      refine lv_iconst (v := (-1 : Int32)) hx hb dX12_unit_48 (by decide) ?_
      exact r_i C hr hW hS h dX12_unit_49
    · replace h := h.2 hc
      refine x_aload_n C hl dX12_unit_7 rfl ?_
      have t1 := h.1
      replace h := h.2
      refine x_get C hW (t := 12) (k := 39) t1 kl_12 (by decide) fl_X12_110 (v := rv b0 (mR σ l0 39)) rfl dX12_unit_8 ?_
      refine x_iload_n C hl dX12_unit_11 rfl ?_
      have t2 := h.1
      replace h := h.2
      have v3 := h.1
      replace h := h.2
      refine x_zald C hW t2 v3 dX12_unit_12 ?_
      refine lv_if_eq hx hb dX12_unit_13 (tgt := 19) rfl (fun hc => ?_) (fun hc => ?_)
      · replace h := h.1 hc
        refine x_aload_n C hl dX12_unit_19 rfl ?_
        refine x_get C hW (t := 12) (k := 39) t1 kl_12 (by decide) fl_X12_110 (v := rv b0 (mR σ l0 39)) rfl dX12_unit_20 ?_
        refine x_iload_n C hl dX12_unit_23 rfl ?_
        refine lv_iconst (v := (1 : Int32)) hx hb dX12_unit_24 (by decide) ?_
        refine x_zast C hW hS t2 v3 dX12_unit_25 (fun H locs hW hS => ?_)
        obtain ⟨s4, e_s4⟩ : ∃ z : Mem, z = (sI σ (mR σ l0 39) l1.toNatClampNeg (vp_nar .boolean (1 : Int32))) := ⟨_, rfl⟩
        replace h := h s4 e_s4
        replace hW : Wd G D tc b0 s4 H := by rw [e_s4]; exact hW
        refine x_aload_n C hl dX12_unit_26 rfl ?_
        refine x_get C hW (t := 12) (k := 40) t1 kl_12 (by decide) fl_X12_114 (v := rv b0 (mR s4 l0 40)) rfl dX12_unit_27 ?_
        refine x_iload_n C hl dX12_unit_30 rfl ?_
        refine lv_iconst (v := (0 : Int32)) hx hb dX12_unit_31 (by decide) ?_
        have t5 := h.1
        replace h := h.2
        have v6 := h.1
        replace h := h.2
        refine x_iast C hW hS t5 v6 dX12_unit_32 (fun H locs hW hS => ?_)
        obtain ⟨s7, e_s7⟩ : ∃ z : Mem, z = (sI s4 (mR s4 l0 40) l1.toNatClampNeg (0 : Int32)) := ⟨_, rfl⟩
        replace h := h s7 e_s7
        replace hW : Wd G D tc b0 s7 H := by rw [e_s7]; exact hW
        refine x_aload_n C hl dX12_unit_33 rfl ?_
        refine x_get C hW (t := 12) (k := 41) t1 kl_12 (by decide) fl_X12_117 (v := rv b0 (mR s7 l0 41)) rfl dX12_unit_34 ?_
        refine x_iload_n C hl dX12_unit_37 rfl ?_
        refine lv_iconst (v := (0 : Int32)) hx hb dX12_unit_38 (by decide) ?_
        have t8 := h.1
        replace h := h.2
        have v9 := h.1
        replace h := h.2
        refine x_iast C hW hS t8 v9 dX12_unit_39 (fun H locs hW hS => ?_)
        obtain ⟨s10, e_s10⟩ : ∃ z : Mem, z = (sI s7 (mR s7 l0 41) l1.toNatClampNeg (0 : Int32)) := ⟨_, rfl⟩
        replace h := h s10 e_s10
        replace hW : Wd G D tc b0 s10 H := by rw [e_s10]; exact hW
        refine x_iload_n C hl dX12_unit_40 rfl ?_
        exact r_i C hr hW hS h dX12_unit_41
      · replace h := h.2 hc
        refine lv_goto hx hb dX12_unit_16 (tgt := 42) rfl ?_
        refine x_iinc C hl dX12_unit_42 rfl (v := (1 : Int32)) (by decide) (by decide) rfl (fun ls hl => ?_)
        refine lv_goto hx hb dX12_unit_45 (tgt := 2) rfl ?_
        exact hK2 _ _ _ _ _ hS hW (hl.keep [true, true] rfl) h
set_option maxRecDepth 20000 in
set_option maxHeartbeats 4000000 in
theorem t_X12_unit_2 {p : Program} {l : Launch} {e : Env} {s : State} {m : MethodId} {args : Array Value} {below : List Frame} {meth : Method} {c : Code} {H : Heap} {locs : List Loc} {D : va_G} {tc : Nat → ClassId} {b0 : Nat} {ls : Array Slot} {G : Lay} {Qx : Int32 → Mem → Prop} {l0 : Nat} {l1 : Int32}  {σ : Mem} (C : Cx p s m args meth c cX12_unit RX12 2 D tc b0) (hr : meth.sig.returnType = (some FieldType.int)) (hS : va_S (AA b0) s.heap H locs) (hW : Wd G D tc b0 σ H) (hl : hL b0 ls 2 [some (.inr (.inr l0)), some (.inl l1)]) (h : X_X12_unit_2 G Qx l0 l1 σ) : W p l e rm_X12_unit s m args below meth c H locs 0 0 (MQ below (va_Qi Qx (fun u t => Pw G D tc b0 u t) (AA b0)) args s 0 0 (AA b0)) (F0 m 2 ls []) := by
  obtain ⟨n, h⟩ := h
  exact t_X12_unit_2_n C hr n l1 σ H locs ls hS hW hl h
set_option maxRecDepth 20000 in
set_option maxHeartbeats 4000000 in
theorem t_X12_unit_0 {p : Program} {l : Launch} {e : Env} {s : State} {m : MethodId} {args : Array Value} {below : List Frame} {meth : Method} {c : Code} {H : Heap} {locs : List Loc} {D : va_G} {tc : Nat → ClassId} {b0 : Nat} {ls : Array Slot} {G : Lay} {Qx : Int32 → Mem → Prop} {l0 : Nat}  {σ : Mem} (C : Cx p s m args meth c cX12_unit RX12 2 D tc b0) (hr : meth.sig.returnType = (some FieldType.int)) (hS : va_S (AA b0) s.heap H locs) (hW : Wd G D tc b0 σ H) (hl : hL b0 ls 2 [some (.inr (.inr l0)), none]) (h : X_X12_unit_0 G Qx l0  σ) : W p l e rm_X12_unit s m args below meth c H locs 0 0 (MQ below (va_Qi Qx (fun u t => Pw G D tc b0 u t) (AA b0)) args s 0 0 (AA b0)) (F0 m 0 ls []) := by
  have hx := C.1
  have hb := C.2.1
  unfold X_X12_unit_0 at h
  refine lv_iconst (v := (0 : Int32)) hx hb dX12_unit_0 (by decide) ?_
  refine x_istore_n C hl dX12_unit_1 (by decide) rfl (fun ls hl => ?_)
  exact t_X12_unit_2 C hr hS hW (hl.keep [true, true] rfl) h
theorem T_X12_unit (l : Launch) {G : Lay} {D : va_G} {tc : Nat → ClassId} {b0 : Nat} (l0 : Nat) (σ : Mem) (Qx : Int32 → Mem → Prop) (h : X_X12_unit G Qx l0 σ) : MI l yX12_unit cX12_unit 2 ((some FieldType.int)) rm_X12_unit G D tc b0 [rv b0 l0] σ Qx :=
  x_entry (y := yX12_unit) [.inr (.inr l0)] 1 (by decide) (Nat.le_of_ble_eq_true rfl) (fun p e s m args below meth c ls C hr hW hl => t_X12_unit_0 C hr va_S.rf hW (hl.keep [true, false] rfl) h)
/-! X12_placeOf -/
set_option maxRecDepth 20000 in
set_option maxHeartbeats 4000000 in
theorem t_X12_placeOf_42 {p : Program} {l : Launch} {e : Env} {s : State} {m : MethodId} {args : Array Value} {below : List Frame} {meth : Method} {c : Code} {H : Heap} {locs : List Loc} {D : va_G} {tc : Nat → ClassId} {b0 : Nat} {ls : Array Slot} {G : Lay} {Qx : Int32 → Mem → Prop}  {k0 : Int32} {σ : Mem} (C : Cx p s m args meth c cX12_placeOf RX12 4 D tc b0) (hr : meth.sig.returnType = (some FieldType.int)) (hS : va_S (AA b0) s.heap H locs) (hW : Wd G D tc b0 σ H) (hl : hL b0 ls 4 [none, none, none, none]) (h : X_X12_placeOf_42 G Qx  k0 σ) : W p l e rm_X12_placeOf s m args below meth c H locs 0 0 (MQ below (va_Qi Qx (fun u t => Pw G D tc b0 u t) (AA b0)) args s 0 0 (AA b0)) (F0 m 42 ls [.int k0]) := by
  have hx := C.1
  have hb := C.2.1
  unfold X_X12_placeOf_42 at h
  exact r_i C hr hW hS h dX12_placeOf_42
set_option maxRecDepth 20000 in
set_option maxHeartbeats 4000000 in
theorem t_X12_placeOf_41 {p : Program} {l : Launch} {e : Env} {s : State} {m : MethodId} {args : Array Value} {below : List Frame} {meth : Method} {c : Code} {H : Heap} {locs : List Loc} {D : va_G} {tc : Nat → ClassId} {b0 : Nat} {ls : Array Slot} {G : Lay} {Qx : Int32 → Mem → Prop}   {σ : Mem} (C : Cx p s m args meth c cX12_placeOf RX12 4 D tc b0) (hr : meth.sig.returnType = (some FieldType.int)) (hS : va_S (AA b0) s.heap H locs) (hW : Wd G D tc b0 σ H) (hl : hL b0 ls 4 [none, none, none, none]) (h : X_X12_placeOf_41 G Qx   σ) : W p l e rm_X12_placeOf s m args below meth c H locs 0 0 (MQ below (va_Qi Qx (fun u t => Pw G D tc b0 u t) (AA b0)) args s 0 0 (AA b0)) (F0 m 41 ls []) := by
  have hx := C.1
  have hb := C.2.1
  unfold X_X12_placeOf_41 at h
  refine lv_iconst (v := (-1 : Int32)) hx hb dX12_placeOf_41 (by decide) ?_
  exact t_X12_placeOf_42 C hr hS hW (hl.keep [false, false, false, false] rfl) h
set_option maxRecDepth 20000 in
set_option maxHeartbeats 4000000 in
theorem t_X12_placeOf_0 {p : Program} {l : Launch} {e : Env} {s : State} {m : MethodId} {args : Array Value} {below : List Frame} {meth : Method} {c : Code} {H : Heap} {locs : List Loc} {D : va_G} {tc : Nat → ClassId} {b0 : Nat} {ls : Array Slot} {G : Lay} {Qx : Int32 → Mem → Prop} {l0 : Nat} {l1 : Int32}  {σ : Mem} (C : Cx p s m args meth c cX12_placeOf RX12 4 D tc b0) (hr : meth.sig.returnType = (some FieldType.int)) (hS : va_S (AA b0) s.heap H locs) (hW : Wd G D tc b0 σ H) (hl : hL b0 ls 4 [some (.inr (.inr l0)), some (.inl l1), none, none]) (h : X_X12_placeOf_0 G Qx l0 l1  σ) : W p l e rm_X12_placeOf s m args below meth c H locs 0 0 (MQ below (va_Qi Qx (fun u t => Pw G D tc b0 u t) (AA b0)) args s 0 0 (AA b0)) (F0 m 0 ls []) := by
  have hx := C.1
  have hb := C.2.1
  unfold X_X12_placeOf_0 at h
  refine x_iload_n C hl dX12_placeOf_0 rfl ?_
  refine lv_bipush (v := (100 : Int32)) hx hb dX12_placeOf_1 (by decide) ?_
  refine lv_idiv hx hb dX12_placeOf_3 (by decide) ?_
  refine x_istore_n C hl dX12_placeOf_4 (by decide) rfl (fun ls hl => ?_)
  refine x_iload_n C hl dX12_placeOf_5 rfl ?_
  refine lv_bipush (v := (100 : Int32)) hx hb dX12_placeOf_6 (by decide) ?_
  refine lv_irem hx hb dX12_placeOf_8 (by decide) ?_
  refine x_istore_n C hl dX12_placeOf_9 (by decide) rfl (fun ls hl => ?_)
  refine x_iload_n C hl dX12_placeOf_10 rfl ?_
  refine lv_if_lt hx hb dX12_placeOf_11 (tgt := 41) rfl (fun hc => ?_) (fun hc => ?_)
  · replace h := h.1 hc
    exact t_X12_placeOf_41 C hr hS hW (hl.keep [false, false, false, false] rfl) h
  · replace h := h.2 hc
    refine x_aload_n C hl dX12_placeOf_14 rfl ?_
    refine x_iload_n C hl dX12_placeOf_15 rfl ?_
    have t1 := h.1
    replace h := h.2
    refine y_i (x_run (As := [.int (l1 / (100 : Int32))]) C hW hS (T_X12_isUnit l l0 (l1 / (100 : Int32)) σ _ h) t1 kl_12 (CW.of yv_X12_isUnit ml_X12_380) ⟨rfl, rfl, ⟨by decide, by decide⟩, by decide, by decide⟩ rfl hl.1 rfl (by decide) dX12_placeOf_16) hS (fun w3 s2 H locs h hW hS => ?_)
    refine lv_if_eq hx hb dX12_placeOf_19 (tgt := 41) rfl (fun hc => ?_) (fun hc => ?_)
    · replace h := h.1 hc
      exact t_X12_placeOf_41 C hr hS hW (hl.keep [false, false, false, false] rfl) h
    · replace h := h.2 hc
      refine x_iload_n C hl dX12_placeOf_22 rfl ?_
      refine x_aload_n C hl dX12_placeOf_23 rfl ?_
      refine x_get C hW (t := 12) (k := 40) t1 kl_12 (by decide) fl_X12_114 (v := rv b0 (mR s2 l0 40)) rfl dX12_placeOf_24 ?_
      refine x_iload_n C hl dX12_placeOf_27 rfl ?_
      have t4 := h.1
      replace h := h.2
      have v5 := h.1
      replace h := h.2
      refine x_iald C hW t4 v5 dX12_placeOf_28 ?_
      refine lv_icmp_ge hx hb dX12_placeOf_29 (tgt := 41) rfl (fun hc => ?_) (fun hc => ?_)
      · replace h := h.1 hc
        exact t_X12_placeOf_41 C hr hS hW (hl.keep [false, false, false, false] rfl) h
      · replace h := h.2 hc
        refine lv_bipush (v := (60 : Int32)) hx hb dX12_placeOf_32 (by decide) ?_
        refine x_iload_n C hl dX12_placeOf_34 rfl ?_
        refine lv_imul hx hb dX12_placeOf_35 ?_
        refine x_iload_n C hl dX12_placeOf_36 rfl ?_
        refine lv_iadd hx hb dX12_placeOf_37 ?_
        refine lv_goto hx hb dX12_placeOf_38 (tgt := 42) rfl ?_
        exact t_X12_placeOf_42 C hr hS hW (hl.keep [false, false, false, false] rfl) h
theorem T_X12_placeOf (l : Launch) {G : Lay} {D : va_G} {tc : Nat → ClassId} {b0 : Nat} (l0 : Nat) (l1 : Int32) (σ : Mem) (Qx : Int32 → Mem → Prop) (h : X_X12_placeOf G Qx l0 l1 σ) : MI l yX12_placeOf cX12_placeOf 4 ((some FieldType.int)) rm_X12_placeOf G D tc b0 [rv b0 l0, .int l1] σ Qx :=
  x_entry (y := yX12_placeOf) [.inr (.inr l0), .inl l1] 2 (by decide) (Nat.le_of_ble_eq_true rfl) (fun p e s m args below meth c ls C hr hW hl => t_X12_placeOf_0 C hr va_S.rf hW (hl.keep [true, true, false, false] rfl) h)
/-! X12_numberOf -/
set_option maxRecDepth 20000 in
set_option maxHeartbeats 4000000 in
theorem t_X12_numberOf_0 {p : Program} {l : Launch} {e : Env} {s : State} {m : MethodId} {args : Array Value} {below : List Frame} {meth : Method} {c : Code} {H : Heap} {locs : List Loc} {D : va_G} {tc : Nat → ClassId} {b0 : Nat} {ls : Array Slot} {G : Lay} {Qx : Int32 → Mem → Prop} {l0 : Int32}  {σ : Mem} (C : Cx p s m args meth c cX12_numberOf RX12 1 D tc b0) (hr : meth.sig.returnType = (some FieldType.int)) (hS : va_S (AA b0) s.heap H locs) (hW : Wd G D tc b0 σ H) (hl : hL b0 ls 1 [some (.inl l0)]) (h : X_X12_numberOf_0 G Qx l0  σ) : W p l e rm_X12_numberOf s m args below meth c H locs 0 0 (MQ below (va_Qi Qx (fun u t => Pw G D tc b0 u t) (AA b0)) args s 0 0 (AA b0)) (F0 m 0 ls []) := by
  have hx := C.1
  have hb := C.2.1
  unfold X_X12_numberOf_0 at h
  refine lv_bipush (v := (100 : Int32)) hx hb dX12_numberOf_0 (by decide) ?_
  refine x_iload_n C hl dX12_numberOf_2 rfl ?_
  refine lv_bipush (v := (60 : Int32)) hx hb dX12_numberOf_3 (by decide) ?_
  refine lv_idiv hx hb dX12_numberOf_5 (by decide) ?_
  refine lv_imul hx hb dX12_numberOf_6 ?_
  refine x_iload_n C hl dX12_numberOf_7 rfl ?_
  refine lv_bipush (v := (60 : Int32)) hx hb dX12_numberOf_8 (by decide) ?_
  refine lv_irem hx hb dX12_numberOf_10 (by decide) ?_
  refine lv_iadd hx hb dX12_numberOf_11 ?_
  exact r_i C hr hW hS h dX12_numberOf_12
theorem T_X12_numberOf (l : Launch) {G : Lay} {D : va_G} {tc : Nat → ClassId} {b0 : Nat} (l0 : Int32) (σ : Mem) (Qx : Int32 → Mem → Prop) (h : X_X12_numberOf G Qx l0 σ) : MI l yX12_numberOf cX12_numberOf 1 ((some FieldType.int)) rm_X12_numberOf G D tc b0 [.int l0] σ Qx :=
  x_entry (y := yX12_numberOf) [.inl l0] 0 (by decide) (Nat.le_of_ble_eq_true rfl) (fun p e s m args below meth c ls C hr hW hl => t_X12_numberOf_0 C hr va_S.rf hW (hl.keep [true] rfl) h)
/-! X12_objectOf -/
set_option maxRecDepth 20000 in
set_option maxHeartbeats 4000000 in
theorem t_X12_objectOf_48 {p : Program} {l : Launch} {e : Env} {s : State} {m : MethodId} {args : Array Value} {below : List Frame} {meth : Method} {c : Code} {H : Heap} {locs : List Loc} {D : va_G} {tc : Nat → ClassId} {b0 : Nat} {ls : Array Slot} {G : Lay} {Qx : Int32 → Mem → Prop} {l0 : Nat} {l1 : Int32} {l2 : Int32} {l3 : Int32} {l4 : Int32}  {K3 : Int32 × Mem → Prop} {σ : Mem} (C : Cx p s m args meth c cX12_objectOf RX12 6 D tc b0) (hr : meth.sig.returnType = (some FieldType.int)) (hK3 : ∀ (x4 : Int32) (σ : Mem) (H : Heap) (locs : List Loc) (ls : Array Slot), va_S (AA b0) s.heap H locs → Wd G D tc b0 σ H → hL b0 ls 6 [some (.inr (.inr l0)), some (.inl l1), some (.inl l2), some (.inl l3), some (.inl x4), none] → K3 (x4, σ) → W p l e rm_X12_objectOf s m args below meth c H locs 0 0 (MQ below (va_Qi Qx (fun u t => Pw G D tc b0 u t) (AA b0)) args s 0 0 (AA b0)) (F0 m 3 ls [])) (hS : va_S (AA b0) s.heap H locs) (hW : Wd G D tc b0 σ H) (hl : hL b0 ls 6 [some (.inr (.inr l0)), some (.inl l1), some (.inl l2), some (.inl l3), some (.inl l4), none]) (h : X_X12_objectOf_48 G Qx K3 l0 l1 l2 l3 l4  σ) : W p l e rm_X12_objectOf s m args below meth c H locs 0 0 (MQ below (va_Qi Qx (fun u t => Pw G D tc b0 u t) (AA b0)) args s 0 0 (AA b0)) (F0 m 48 ls []) := by
  have hx := C.1
  have hb := C.2.1
  unfold X_X12_objectOf_48 at h
  refine x_iinc C hl dX12_objectOf_48 rfl (v := (1 : Int32)) (by decide) (by decide) rfl (fun ls hl => ?_)
  refine lv_goto hx hb dX12_objectOf_51 (tgt := 3) rfl ?_
  exact hK3 _ _ _ _ _ hS hW (hl.keep [true, true, true, true, true, false] rfl) h
set_option maxRecDepth 20000 in
set_option maxHeartbeats 4000000 in
theorem t_X12_objectOf_3_n {p : Program} {l : Launch} {e : Env} {s : State} {m : MethodId} {args : Array Value} {below : List Frame} {meth : Method} {c : Code} {D : va_G} {tc : Nat → ClassId} {b0 : Nat} {G : Lay} {Qx : Int32 → Mem → Prop} {l0 : Nat} {l1 : Int32} {l2 : Int32} {l3 : Int32} (C : Cx p s m args meth c cX12_objectOf RX12 6 D tc b0) (hr : meth.sig.returnType = (some FieldType.int)) (n : Nat) : ∀ (l4 : Int32) (σ : Mem) (H : Heap) (locs : List Loc) (ls : Array Slot), va_S (AA b0) s.heap H locs → Wd G D tc b0 σ H → hL b0 ls 6 [some (.inr (.inr l0)), some (.inl l1), some (.inl l2), some (.inl l3), some (.inl l4), none] → Lp (X_X12_objectOf_3_s G Qx l0 l1 l2 l3) n (l4, σ) → W p l e rm_X12_objectOf s m args below meth c H locs 0 0 (MQ below (va_Qi Qx (fun u t => Pw G D tc b0 u t) (AA b0)) args s 0 0 (AA b0)) (F0 m 3 ls []) := by
  have hx := C.1
  have hb := C.2.1
  induction n with
  | zero => intro l4 σ H locs ls hS hW hl h; exact False.elim h
  | succ n hK3 =>
    intro l4 σ H locs ls hS hW hl h
    replace h : X_X12_objectOf_3_s G Qx l0 l1 l2 l3 (Lp (X_X12_objectOf_3_s G Qx l0 l1 l2 l3) n) (l4, σ) := h
    unfold X_X12_objectOf_3_s at h
    refine x_iload C hl dX12_objectOf_3 rfl ?_
    refine x_aload_n C hl dX12_objectOf_5 rfl ?_
    have t1 := h.1
    replace h := h.2
    refine x_get C hW (t := 12) (k := 40) t1 kl_12 (by decide) fl_X12_114 (v := rv b0 (mR σ l0 40)) rfl dX12_objectOf_6 ?_
    refine x_iload_n C hl dX12_objectOf_9 rfl ?_
    have t2 := h.1
    replace h := h.2
    have v3 := h.1
    replace h := h.2
    refine x_iald C hW t2 v3 dX12_objectOf_10 ?_
    refine lv_icmp_ge hx hb dX12_objectOf_11 (tgt := 54) rfl (fun hc => ?_) (fun hc => ?_)
    · replace h := h.1 hc
      refine lv_iconst (v := (-1 : Int32)) hx hb dX12_objectOf_54 (by decide) ?_
      exact r_i C hr hW hS h dX12_objectOf_55
    · replace h := h.2 hc
      refine lv_bipush (v := (60 : Int32)) hx hb dX12_objectOf_14 (by decide) ?_
      refine x_iload_n C hl dX12_objectOf_16 rfl ?_
      refine lv_imul hx hb dX12_objectOf_17 ?_
      refine x_iload C hl dX12_objectOf_18 rfl ?_
      refine lv_iadd hx hb dX12_objectOf_20 ?_
      refine x_istore C hl dX12_objectOf_21 (by decide) rfl (fun ls hl => ?_)
      refine x_aload_n C hl dX12_objectOf_23 rfl ?_
      refine x_get C hW (t := 12) (k := 43) t1 kl_12 (by decide) fl_X12_123 (v := rv b0 (mR σ l0 43)) rfl dX12_objectOf_24 ?_
      refine x_iload C hl dX12_objectOf_27 rfl ?_
      have t4 := h.1
      replace h := h.2
      have v5 := h.1
      replace h := h.2
      refine x_iald C hW t4 v5 dX12_objectOf_29 ?_
      refine x_iload_n C hl dX12_objectOf_30 rfl ?_
      refine lv_icmp_ne hx hb dX12_objectOf_31 (tgt := 48) rfl (fun hc => ?_) (fun hc => ?_)
      · replace h := h.2 hc
        exact t_X12_objectOf_48 C hr hK3 hS hW (hl.keep [true, true, true, true, true, false] rfl) h
      · replace h := h.1 hc
        refine x_aload_n C hl dX12_objectOf_34 rfl ?_
        refine x_get C hW (t := 12) (k := 44) t1 kl_12 (by decide) fl_X12_126 (v := rv b0 (mR σ l0 44)) rfl dX12_objectOf_35 ?_
        refine x_iload C hl dX12_objectOf_38 rfl ?_
        have t6 := h.1
        replace h := h.2
        have v7 := h.1
        replace h := h.2
        refine x_iald C hW t6 v7 dX12_objectOf_40 ?_
        refine x_iload_n C hl dX12_objectOf_41 rfl ?_
        refine lv_icmp_ne hx hb dX12_objectOf_42 (tgt := 48) rfl (fun hc => ?_) (fun hc => ?_)
        · replace h := h.2 hc
          exact t_X12_objectOf_48 C hr hK3 hS hW (hl.keep [true, true, true, true, true, false] rfl) h
        · replace h := h.1 hc
          refine x_iload C hl dX12_objectOf_45 rfl ?_
          exact r_i C hr hW hS h dX12_objectOf_47
set_option maxRecDepth 20000 in
set_option maxHeartbeats 4000000 in
theorem t_X12_objectOf_3 {p : Program} {l : Launch} {e : Env} {s : State} {m : MethodId} {args : Array Value} {below : List Frame} {meth : Method} {c : Code} {H : Heap} {locs : List Loc} {D : va_G} {tc : Nat → ClassId} {b0 : Nat} {ls : Array Slot} {G : Lay} {Qx : Int32 → Mem → Prop} {l0 : Nat} {l1 : Int32} {l2 : Int32} {l3 : Int32} {l4 : Int32}  {σ : Mem} (C : Cx p s m args meth c cX12_objectOf RX12 6 D tc b0) (hr : meth.sig.returnType = (some FieldType.int)) (hS : va_S (AA b0) s.heap H locs) (hW : Wd G D tc b0 σ H) (hl : hL b0 ls 6 [some (.inr (.inr l0)), some (.inl l1), some (.inl l2), some (.inl l3), some (.inl l4), none]) (h : X_X12_objectOf_3 G Qx l0 l1 l2 l3 l4 σ) : W p l e rm_X12_objectOf s m args below meth c H locs 0 0 (MQ below (va_Qi Qx (fun u t => Pw G D tc b0 u t) (AA b0)) args s 0 0 (AA b0)) (F0 m 3 ls []) := by
  obtain ⟨n, h⟩ := h
  exact t_X12_objectOf_3_n C hr n l4 σ H locs ls hS hW hl h
set_option maxRecDepth 20000 in
set_option maxHeartbeats 4000000 in
theorem t_X12_objectOf_0 {p : Program} {l : Launch} {e : Env} {s : State} {m : MethodId} {args : Array Value} {below : List Frame} {meth : Method} {c : Code} {H : Heap} {locs : List Loc} {D : va_G} {tc : Nat → ClassId} {b0 : Nat} {ls : Array Slot} {G : Lay} {Qx : Int32 → Mem → Prop} {l0 : Nat} {l1 : Int32} {l2 : Int32} {l3 : Int32}  {σ : Mem} (C : Cx p s m args meth c cX12_objectOf RX12 6 D tc b0) (hr : meth.sig.returnType = (some FieldType.int)) (hS : va_S (AA b0) s.heap H locs) (hW : Wd G D tc b0 σ H) (hl : hL b0 ls 6 [some (.inr (.inr l0)), some (.inl l1), some (.inl l2), some (.inl l3), none, none]) (h : X_X12_objectOf_0 G Qx l0 l1 l2 l3  σ) : W p l e rm_X12_objectOf s m args below meth c H locs 0 0 (MQ below (va_Qi Qx (fun u t => Pw G D tc b0 u t) (AA b0)) args s 0 0 (AA b0)) (F0 m 0 ls []) := by
  have hx := C.1
  have hb := C.2.1
  unfold X_X12_objectOf_0 at h
  refine lv_iconst (v := (0 : Int32)) hx hb dX12_objectOf_0 (by decide) ?_
  refine x_istore C hl dX12_objectOf_1 (by decide) rfl (fun ls hl => ?_)
  exact t_X12_objectOf_3 C hr hS hW (hl.keep [true, true, true, true, true, false] rfl) h
theorem T_X12_objectOf (l : Launch) {G : Lay} {D : va_G} {tc : Nat → ClassId} {b0 : Nat} (l0 : Nat) (l1 : Int32) (l2 : Int32) (l3 : Int32) (σ : Mem) (Qx : Int32 → Mem → Prop) (h : X_X12_objectOf G Qx l0 l1 l2 l3 σ) : MI l yX12_objectOf cX12_objectOf 6 ((some FieldType.int)) rm_X12_objectOf G D tc b0 [rv b0 l0, .int l1, .int l2, .int l3] σ Qx :=
  x_entry (y := yX12_objectOf) [.inr (.inr l0), .inl l1, .inl l2, .inl l3] 2 (by decide) (Nat.le_of_ble_eq_true rfl) (fun p e s m args below meth c ls C hr hW hl => t_X12_objectOf_0 C hr va_S.rf hW (hl.keep [true, true, true, true, false, false] rfl) h)
/-! X12_newObject -/
set_option maxRecDepth 20000 in
set_option maxHeartbeats 4000000 in
theorem t_X12_newObject_67_n {p : Program} {l : Launch} {e : Env} {s : State} {m : MethodId} {args : Array Value} {below : List Frame} {meth : Method} {c : Code} {D : va_G} {tc : Nat → ClassId} {b0 : Nat} {G : Lay} {Qx : Int32 → Mem → Prop} {l0 : Nat} {l5 : Int32} (C : Cx p s m args meth c cX12_newObject RX12 7 D tc b0) (hr : meth.sig.returnType = (some FieldType.int)) (n : Nat) : ∀ (l6 : Int32) (σ : Mem) (H : Heap) (locs : List Loc) (ls : Array Slot), va_S (AA b0) s.heap H locs → Wd G D tc b0 σ H → hL b0 ls 7 [some (.inr (.inr l0)), none, none, none, none, some (.inl l5), some (.inl l6)] → Lp (X_X12_newObject_67_s G Qx l0 l5) n (l6, σ) → W p l e rm_X12_newObject s m args below meth c H locs 0 0 (MQ below (va_Qi Qx (fun u t => Pw G D tc b0 u t) (AA b0)) args s 0 0 (AA b0)) (F0 m 67 ls []) := by
  have hx := C.1
  have hb := C.2.1
  induction n with
  | zero => intro l6 σ H locs ls hS hW hl h; exact False.elim h
  | succ n hK67 =>
    intro l6 σ H locs ls hS hW hl h
    replace h : X_X12_newObject_67_s G Qx l0 l5 (Lp (X_X12_newObject_67_s G Qx l0 l5) n) (l6, σ) := h
    unfold X_X12_newObject_67_s at h
    refine x_iload C hl dX12_newObject_67 rfl ?_
    refine lv_bipush (v := (16 : Int32)) hx hb dX12_newObject_69 (by decide) ?_
    refine lv_icmp_ge hx hb dX12_newObject_71 (tgt := 108) rfl (fun hc => ?_) (fun hc => ?_)
    · replace h := h.1 hc
      refine x_iload C hl dX12_newObject_108 rfl ?_
      exact r_i C hr hW hS h dX12_newObject_110
    · replace h := h.2 hc
      refine x_aload_n C hl dX12_newObject_74 rfl ?_
      have t1 := h.1
      replace h := h.2
      refine x_get C hW (t := 12) (k := 47) t1 kl_12 (by decide) fl_X12_135 (v := rv b0 (mR σ l0 47)) rfl dX12_newObject_75 ?_
      refine lv_bipush (v := (16 : Int32)) hx hb dX12_newObject_78 (by decide) ?_
      refine x_iload C hl dX12_newObject_80 rfl ?_
      refine lv_imul hx hb dX12_newObject_82 ?_
      refine x_iload C hl dX12_newObject_83 rfl ?_
      refine lv_iadd hx hb dX12_newObject_85 ?_
      refine lv_iconst (v := (0 : Int32)) hx hb dX12_newObject_86 (by decide) ?_
      have t2 := h.1
      replace h := h.2
      have v3 := h.1
      replace h := h.2
      refine x_iast C hW hS t2 v3 dX12_newObject_87 (fun H locs hW hS => ?_)
      obtain ⟨s4, e_s4⟩ : ∃ z : Mem, z = (sI σ (mR σ l0 47) (((16 : Int32) * l5) + l6).toNatClampNeg (0 : Int32)) := ⟨_, rfl⟩
      replace h := h s4 e_s4
      replace hW : Wd G D tc b0 s4 H := by rw [e_s4]; exact hW
      refine x_aload_n C hl dX12_newObject_88 rfl ?_
      refine x_get C hW (t := 12) (k := 48) t1 kl_12 (by decide) fl_X12_138 (v := rv b0 (mR s4 l0 48)) rfl dX12_newObject_89 ?_
      refine lv_bipush (v := (16 : Int32)) hx hb dX12_newObject_92 (by decide) ?_
      refine x_iload C hl dX12_newObject_94 rfl ?_
      refine lv_imul hx hb dX12_newObject_96 ?_
      refine x_iload C hl dX12_newObject_97 rfl ?_
      refine lv_iadd hx hb dX12_newObject_99 ?_
      refine lv_iconst (v := (0 : Int32)) hx hb dX12_newObject_100 (by decide) ?_
      have t5 := h.1
      replace h := h.2
      have v6 := h.1
      replace h := h.2
      refine x_iast C hW hS t5 v6 dX12_newObject_101 (fun H locs hW hS => ?_)
      obtain ⟨s7, e_s7⟩ : ∃ z : Mem, z = (sI s4 (mR s4 l0 48) (((16 : Int32) * l5) + l6).toNatClampNeg (0 : Int32)) := ⟨_, rfl⟩
      replace h := h s7 e_s7
      replace hW : Wd G D tc b0 s7 H := by rw [e_s7]; exact hW
      refine x_iinc C hl dX12_newObject_102 rfl (v := (1 : Int32)) (by decide) (by decide) rfl (fun ls hl => ?_)
      refine lv_goto hx hb dX12_newObject_105 (tgt := 67) rfl ?_
      exact hK67 _ _ _ _ _ hS hW (hl.keep [true, false, false, false, false, true, true] rfl) h
set_option maxRecDepth 20000 in
set_option maxHeartbeats 4000000 in
theorem t_X12_newObject_67 {p : Program} {l : Launch} {e : Env} {s : State} {m : MethodId} {args : Array Value} {below : List Frame} {meth : Method} {c : Code} {H : Heap} {locs : List Loc} {D : va_G} {tc : Nat → ClassId} {b0 : Nat} {ls : Array Slot} {G : Lay} {Qx : Int32 → Mem → Prop} {l0 : Nat} {l5 : Int32} {l6 : Int32}  {σ : Mem} (C : Cx p s m args meth c cX12_newObject RX12 7 D tc b0) (hr : meth.sig.returnType = (some FieldType.int)) (hS : va_S (AA b0) s.heap H locs) (hW : Wd G D tc b0 σ H) (hl : hL b0 ls 7 [some (.inr (.inr l0)), none, none, none, none, some (.inl l5), some (.inl l6)]) (h : X_X12_newObject_67 G Qx l0 l5 l6 σ) : W p l e rm_X12_newObject s m args below meth c H locs 0 0 (MQ below (va_Qi Qx (fun u t => Pw G D tc b0 u t) (AA b0)) args s 0 0 (AA b0)) (F0 m 67 ls []) := by
  obtain ⟨n, h⟩ := h
  exact t_X12_newObject_67_n C hr n l6 σ H locs ls hS hW hl h
set_option maxRecDepth 20000 in
set_option maxHeartbeats 4000000 in
theorem t_X12_newObject_0 {p : Program} {l : Launch} {e : Env} {s : State} {m : MethodId} {args : Array Value} {below : List Frame} {meth : Method} {c : Code} {H : Heap} {locs : List Loc} {D : va_G} {tc : Nat → ClassId} {b0 : Nat} {ls : Array Slot} {G : Lay} {Qx : Int32 → Mem → Prop} {l0 : Nat} {l1 : Int32} {l2 : Int32} {l3 : Int32} {l4 : Int32}  {σ : Mem} (C : Cx p s m args meth c cX12_newObject RX12 7 D tc b0) (hr : meth.sig.returnType = (some FieldType.int)) (hS : va_S (AA b0) s.heap H locs) (hW : Wd G D tc b0 σ H) (hl : hL b0 ls 7 [some (.inr (.inr l0)), some (.inl l1), some (.inl l2), some (.inl l3), some (.inl l4), none, none]) (h : X_X12_newObject_0 G Qx l0 l1 l2 l3 l4  σ) : W p l e rm_X12_newObject s m args below meth c H locs 0 0 (MQ below (va_Qi Qx (fun u t => Pw G D tc b0 u t) (AA b0)) args s 0 0 (AA b0)) (F0 m 0 ls []) := by
  have hx := C.1
  have hb := C.2.1
  unfold X_X12_newObject_0 at h
  refine lv_bipush (v := (60 : Int32)) hx hb dX12_newObject_0 (by decide) ?_
  refine x_iload_n C hl dX12_newObject_2 rfl ?_
  refine lv_imul hx hb dX12_newObject_3 ?_
  refine x_aload_n C hl dX12_newObject_4 rfl ?_
  have t1 := h.1
  replace h := h.2
  refine x_get C hW (t := 12) (k := 40) t1 kl_12 (by decide) fl_X12_114 (v := rv b0 (mR σ l0 40)) rfl dX12_newObject_5 ?_
  refine x_iload_n C hl dX12_newObject_8 rfl ?_
  have t2 := h.1
  replace h := h.2
  have v3 := h.1
  replace h := h.2
  refine x_iald C hW t2 v3 dX12_newObject_9 ?_
  refine lv_iadd hx hb dX12_newObject_10 ?_
  refine x_istore C hl dX12_newObject_11 (by decide) rfl (fun ls hl => ?_)
  refine x_aload_n C hl dX12_newObject_13 rfl ?_
  refine x_get C hW (t := 12) (k := 40) t1 kl_12 (by decide) fl_X12_114 (v := rv b0 (mR σ l0 40)) rfl dX12_newObject_14 ?_
  refine x_iload_n C hl dX12_newObject_17 rfl ?_
  refine lv_dup2_11 hx hb dX12_newObject_18 rfl (rv_cat _ _) ?_
  refine x_iald C hW t2 v3 dX12_newObject_19 ?_
  refine lv_iconst (v := (1 : Int32)) hx hb dX12_newObject_20 (by decide) ?_
  refine lv_iadd hx hb dX12_newObject_21 ?_
  refine x_iast C hW hS t2 v3 dX12_newObject_22 (fun H locs hW hS => ?_)
  obtain ⟨s4, e_s4⟩ : ∃ z : Mem, z = (sI σ (mR σ l0 40) l1.toNatClampNeg ((mI σ (mR σ l0 40) l1.toNatClampNeg) + (1 : Int32))) := ⟨_, rfl⟩
  replace h := h s4 e_s4
  replace hW : Wd G D tc b0 s4 H := by rw [e_s4]; exact hW
  refine x_aload_n C hl dX12_newObject_23 rfl ?_
  refine x_get C hW (t := 12) (k := 42) t1 kl_12 (by decide) fl_X12_120 (v := rv b0 (mR s4 l0 42)) rfl dX12_newObject_24 ?_
  refine x_iload C hl dX12_newObject_27 rfl ?_
  refine x_iload C hl dX12_newObject_29 rfl ?_
  have t5 := h.1
  replace h := h.2
  have v6 := h.1
  replace h := h.2
  refine x_iast C hW hS t5 v6 dX12_newObject_31 (fun H locs hW hS => ?_)
  obtain ⟨s7, e_s7⟩ : ∃ z : Mem, z = (sI s4 (mR s4 l0 42) (((60 : Int32) * l1) + (mI σ (mR σ l0 40) l1.toNatClampNeg)).toNatClampNeg l4) := ⟨_, rfl⟩
  replace h := h s7 e_s7
  replace hW : Wd G D tc b0 s7 H := by rw [e_s7]; exact hW
  refine x_aload_n C hl dX12_newObject_32 rfl ?_
  refine x_get C hW (t := 12) (k := 43) t1 kl_12 (by decide) fl_X12_123 (v := rv b0 (mR s7 l0 43)) rfl dX12_newObject_33 ?_
  refine x_iload C hl dX12_newObject_36 rfl ?_
  refine x_iload_n C hl dX12_newObject_38 rfl ?_
  have t8 := h.1
  replace h := h.2
  have v9 := h.1
  replace h := h.2
  refine x_iast C hW hS t8 v9 dX12_newObject_39 (fun H locs hW hS => ?_)
  obtain ⟨s10, e_s10⟩ : ∃ z : Mem, z = (sI s7 (mR s7 l0 43) (((60 : Int32) * l1) + (mI σ (mR σ l0 40) l1.toNatClampNeg)).toNatClampNeg l2) := ⟨_, rfl⟩
  replace h := h s10 e_s10
  replace hW : Wd G D tc b0 s10 H := by rw [e_s10]; exact hW
  refine x_aload_n C hl dX12_newObject_40 rfl ?_
  refine x_get C hW (t := 12) (k := 44) t1 kl_12 (by decide) fl_X12_126 (v := rv b0 (mR s10 l0 44)) rfl dX12_newObject_41 ?_
  refine x_iload C hl dX12_newObject_44 rfl ?_
  refine x_iload_n C hl dX12_newObject_46 rfl ?_
  have t11 := h.1
  replace h := h.2
  have v12 := h.1
  replace h := h.2
  refine x_iast C hW hS t11 v12 dX12_newObject_47 (fun H locs hW hS => ?_)
  obtain ⟨s13, e_s13⟩ : ∃ z : Mem, z = (sI s10 (mR s10 l0 44) (((60 : Int32) * l1) + (mI σ (mR σ l0 40) l1.toNatClampNeg)).toNatClampNeg l3) := ⟨_, rfl⟩
  replace h := h s13 e_s13
  replace hW : Wd G D tc b0 s13 H := by rw [e_s13]; exact hW
  refine x_aload_n C hl dX12_newObject_48 rfl ?_
  refine x_get C hW (t := 12) (k := 45) t1 kl_12 (by decide) fl_X12_129 (v := rv b0 (mR s13 l0 45)) rfl dX12_newObject_49 ?_
  refine x_iload C hl dX12_newObject_52 rfl ?_
  refine lv_iconst (v := (-1 : Int32)) hx hb dX12_newObject_54 (by decide) ?_
  have t14 := h.1
  replace h := h.2
  have v15 := h.1
  replace h := h.2
  refine x_iast C hW hS t14 v15 dX12_newObject_55 (fun H locs hW hS => ?_)
  obtain ⟨s16, e_s16⟩ : ∃ z : Mem, z = (sI s13 (mR s13 l0 45) (((60 : Int32) * l1) + (mI σ (mR σ l0 40) l1.toNatClampNeg)).toNatClampNeg (-1 : Int32)) := ⟨_, rfl⟩
  replace h := h s16 e_s16
  replace hW : Wd G D tc b0 s16 H := by rw [e_s16]; exact hW
  refine x_aload_n C hl dX12_newObject_56 rfl ?_
  refine x_get C hW (t := 12) (k := 46) t1 kl_12 (by decide) fl_X12_132 (v := rv b0 (mR s16 l0 46)) rfl dX12_newObject_57 ?_
  refine x_iload C hl dX12_newObject_60 rfl ?_
  refine lv_iconst (v := (0 : Int32)) hx hb dX12_newObject_62 (by decide) ?_
  have t17 := h.1
  replace h := h.2
  have v18 := h.1
  replace h := h.2
  refine x_iast C hW hS t17 v18 dX12_newObject_63 (fun H locs hW hS => ?_)
  obtain ⟨s19, e_s19⟩ : ∃ z : Mem, z = (sI s16 (mR s16 l0 46) (((60 : Int32) * l1) + (mI σ (mR σ l0 40) l1.toNatClampNeg)).toNatClampNeg (0 : Int32)) := ⟨_, rfl⟩
  replace h := h s19 e_s19
  replace hW : Wd G D tc b0 s19 H := by rw [e_s19]; exact hW
  refine lv_iconst (v := (0 : Int32)) hx hb dX12_newObject_64 (by decide) ?_
  refine x_istore C hl dX12_newObject_65 (by decide) rfl (fun ls hl => ?_)
  exact t_X12_newObject_67 C hr hS hW (hl.keep [true, false, false, false, false, true, true] rfl) h
theorem T_X12_newObject (l : Launch) {G : Lay} {D : va_G} {tc : Nat → ClassId} {b0 : Nat} (l0 : Nat) (l1 : Int32) (l2 : Int32) (l3 : Int32) (l4 : Int32) (σ : Mem) (Qx : Int32 → Mem → Prop) (h : X_X12_newObject G Qx l0 l1 l2 l3 l4 σ) : MI l yX12_newObject cX12_newObject 7 ((some FieldType.int)) rm_X12_newObject G D tc b0 [rv b0 l0, .int l1, .int l2, .int l3, .int l4] σ Qx :=
  x_entry (y := yX12_newObject) [.inr (.inr l0), .inl l1, .inl l2, .inl l3, .inl l4] 2 (by decide) (Nat.le_of_ble_eq_true rfl) (fun p e s m args below meth c ls C hr hW hl => t_X12_newObject_0 C hr va_S.rf hW (hl.keep [true, true, true, true, true, false, false] rfl) h)
/-! X12_meet -/
set_option maxRecDepth 20000 in
set_option maxHeartbeats 4000000 in
theorem t_X12_meet_41 {p : Program} {l : Launch} {e : Env} {s : State} {m : MethodId} {args : Array Value} {below : List Frame} {meth : Method} {c : Code} {H : Heap} {locs : List Loc} {D : va_G} {tc : Nat → ClassId} {b0 : Nat} {ls : Array Slot} {G : Lay} {Qx : Int32 → Mem → Prop}  {k0 : Int32} {σ : Mem} (C : Cx p s m args meth c cX12_meet RX12 5 D tc b0) (hr : meth.sig.returnType = (some FieldType.int)) (hS : va_S (AA b0) s.heap H locs) (hW : Wd G D tc b0 σ H) (hl : hL b0 ls 5 [none, none, none, none, none]) (h : X_X12_meet_41 G Qx  k0 σ) : W p l e rm_X12_meet s m args below meth c H locs 0 0 (MQ below (va_Qi Qx (fun u t => Pw G D tc b0 u t) (AA b0)) args s 0 0 (AA b0)) (F0 m 41 ls [.int k0]) := by
  have hx := C.1
  have hb := C.2.1
  unfold X_X12_meet_41 at h
  exact r_i C hr hW hS h dX12_meet_41
set_option maxRecDepth 20000 in
set_option maxHeartbeats 4000000 in
theorem t_X12_meet_0 {p : Program} {l : Launch} {e : Env} {s : State} {m : MethodId} {args : Array Value} {below : List Frame} {meth : Method} {c : Code} {H : Heap} {locs : List Loc} {D : va_G} {tc : Nat → ClassId} {b0 : Nat} {ls : Array Slot} {G : Lay} {Qx : Int32 → Mem → Prop} {l0 : Nat} {l1 : Int32} {l2 : Int32} {l3 : Int32}  {σ : Mem} (C : Cx p s m args meth c cX12_meet RX12 5 D tc b0) (hr : meth.sig.returnType = (some FieldType.int)) (hS : va_S (AA b0) s.heap H locs) (hW : Wd G D tc b0 σ H) (hl : hL b0 ls 5 [some (.inr (.inr l0)), some (.inl l1), some (.inl l2), some (.inl l3), none]) (h : X_X12_meet_0 G Qx l0 l1 l2 l3  σ) : W p l e rm_X12_meet s m args below meth c H locs 0 0 (MQ below (va_Qi Qx (fun u t => Pw G D tc b0 u t) (AA b0)) args s 0 0 (AA b0)) (F0 m 0 ls []) := by
  have hx := C.1
  have hb := C.2.1
  unfold X_X12_meet_0 at h
  refine x_aload_n C hl dX12_meet_0 rfl ?_
  refine x_iload_n C hl dX12_meet_1 rfl ?_
  refine x_iload_n C hl dX12_meet_2 rfl ?_
  refine x_iload_n C hl dX12_meet_3 rfl ?_
  have t1 := h.1
  replace h := h.2
  refine y_i (x_run (As := [.int l1, .int l2, .int l3]) C hW hS (T_X12_objectOf l l0 l1 l2 l3 σ _ h) t1 kl_12 (CW.of yv_X12_objectOf ml_X12_383) ⟨rfl, rfl, ⟨by decide, by decide⟩, by decide, by decide⟩ rfl hl.1 rfl (by decide) dX12_meet_4) hS (fun w3 s2 H locs h hW hS => ?_)
  refine x_istore C hl dX12_meet_7 (by decide) rfl (fun ls hl => ?_)
  refine x_iload C hl dX12_meet_9 rfl ?_
  refine lv_if_lt hx hb dX12_meet_11 (tgt := 17) rfl (fun hc => ?_) (fun hc => ?_)
  · replace h := h.1 hc
    refine x_aload_n C hl dX12_meet_17 rfl ?_
    refine x_get C hW (t := 12) (k := 40) t1 kl_12 (by decide) fl_X12_114 (v := rv b0 (mR s2 l0 40)) rfl dX12_meet_18 ?_
    refine x_iload_n C hl dX12_meet_21 rfl ?_
    have t4 := h.1
    replace h := h.2
    have v5 := h.1
    replace h := h.2
    refine x_iald C hW t4 v5 dX12_meet_22 ?_
    refine lv_bipush (v := (60 : Int32)) hx hb dX12_meet_23 (by decide) ?_
    refine lv_icmp_ne hx hb dX12_meet_25 (tgt := 33) rfl (fun hc => ?_) (fun hc => ?_)
    · replace h := h.2 hc
      refine x_aload_n C hl dX12_meet_33 rfl ?_
      refine x_iload_n C hl dX12_meet_34 rfl ?_
      refine x_iload_n C hl dX12_meet_35 rfl ?_
      refine x_iload_n C hl dX12_meet_36 rfl ?_
      refine lv_iconst (v := (0 : Int32)) hx hb dX12_meet_37 (by decide) ?_
      refine y_i (x_run (As := [.int l1, .int l2, .int l3, .int (0 : Int32)]) C hW hS (T_X12_newObject l l0 l1 l2 l3 (0 : Int32) s2 _ h) t1 kl_12 (CW.of yv_X12_newObject ml_X12_386) ⟨rfl, rfl, ⟨by decide, by decide⟩, by decide, by decide⟩ rfl hl.1 rfl (by decide) dX12_meet_38) hS (fun w7 s6 H locs h hW hS => ?_)
      exact t_X12_meet_41 C hr hS hW (hl.keep [false, false, false, false, false] rfl) h
    · replace h := h.1 hc
      refine lv_bipush (v := (-2 : Int32)) hx hb dX12_meet_28 (by decide) ?_
      refine lv_goto hx hb dX12_meet_30 (tgt := 41) rfl ?_
      exact t_X12_meet_41 C hr hS hW (hl.keep [false, false, false, false, false] rfl) h
  · replace h := h.2 hc
    refine x_iload C hl dX12_meet_14 rfl ?_
    exact r_i C hr hW hS h dX12_meet_16
theorem T_X12_meet (l : Launch) {G : Lay} {D : va_G} {tc : Nat → ClassId} {b0 : Nat} (l0 : Nat) (l1 : Int32) (l2 : Int32) (l3 : Int32) (σ : Mem) (Qx : Int32 → Mem → Prop) (h : X_X12_meet G Qx l0 l1 l2 l3 σ) : MI l yX12_meet cX12_meet 5 ((some FieldType.int)) rm_X12_meet G D tc b0 [rv b0 l0, .int l1, .int l2, .int l3] σ Qx :=
  x_entry (y := yX12_meet) [.inr (.inr l0), .inl l1, .inl l2, .inl l3] 1 (by decide) (Nat.le_of_ble_eq_true rfl) (fun p e s m args below meth c ls C hr hW hl => t_X12_meet_0 C hr va_S.rf hW (hl.keep [true, true, true, true, false] rfl) h)
/-! X12_copies -/
set_option maxRecDepth 20000 in
set_option maxHeartbeats 4000000 in
theorem t_X12_copies_26_n {p : Program} {l : Launch} {e : Env} {s : State} {m : MethodId} {args : Array Value} {below : List Frame} {meth : Method} {c : Code} {D : va_G} {tc : Nat → ClassId} {b0 : Nat} {G : Lay} {Qx : Mem → Prop} {l0 : Nat} {l1 : Int32} {l2 : Int32} (C : Cx p s m args meth c cX12_copies RX12 4 D tc b0) (hr : meth.sig.returnType = (none : Option FieldType)) (n : Nat) : ∀ (l3 : Int32) (σ : Mem) (H : Heap) (locs : List Loc) (ls : Array Slot), va_S (AA b0) s.heap H locs → Wd G D tc b0 σ H → hL b0 ls 4 [some (.inr (.inr l0)), some (.inl l1), some (.inl l2), some (.inl l3)] → Lp (X_X12_copies_26_s G Qx l0 l1 l2) n (l3, σ) → W p l e rm_X12_copies s m args below meth c H locs 0 0 (MQ below (va_Qv Qx (fun u t => Pw G D tc b0 u t) (AA b0)) args s 0 0 (AA b0)) (F0 m 26 ls []) := by
  have hx := C.1
  have hb := C.2.1
  induction n with
  | zero => intro l3 σ H locs ls hS hW hl h; exact False.elim h
  | succ n hK26 =>
    intro l3 σ H locs ls hS hW hl h
    replace h : X_X12_copies_26_s G Qx l0 l1 l2 (Lp (X_X12_copies_26_s G Qx l0 l1 l2) n) (l3, σ) := h
    unfold X_X12_copies_26_s at h
    refine x_iload_n C hl dX12_copies_26 rfl ?_
    refine lv_bipush (v := (16 : Int32)) hx hb dX12_copies_27 (by decide) ?_
    refine lv_icmp_ge hx hb dX12_copies_29 (tgt := 82) rfl (fun hc => ?_) (fun hc => ?_)
    · replace h := h.1 hc
      exact r_v C hr hW hS h dX12_copies_82
    · replace h := h.2 hc
      refine x_aload_n C hl dX12_copies_32 rfl ?_
      have t1 := h.1
      replace h := h.2
      refine x_get C hW (t := 12) (k := 47) t1 kl_12 (by decide) fl_X12_135 (v := rv b0 (mR σ l0 47)) rfl dX12_copies_33 ?_
      refine lv_bipush (v := (16 : Int32)) hx hb dX12_copies_36 (by decide) ?_
      refine x_iload_n C hl dX12_copies_38 rfl ?_
      refine lv_imul hx hb dX12_copies_39 ?_
      refine x_iload_n C hl dX12_copies_40 rfl ?_
      refine lv_iadd hx hb dX12_copies_41 ?_
      refine x_aload_n C hl dX12_copies_42 rfl ?_
      refine x_get C hW (t := 12) (k := 31) t1 kl_12 (by decide) fl_X12_89 (v := rv b0 (mR σ l0 31)) rfl dX12_copies_43 ?_
      refine lv_bipush (v := (16 : Int32)) hx hb dX12_copies_46 (by decide) ?_
      refine x_iload_n C hl dX12_copies_48 rfl ?_
      refine lv_imul hx hb dX12_copies_49 ?_
      refine x_iload_n C hl dX12_copies_50 rfl ?_
      refine lv_iadd hx hb dX12_copies_51 ?_
      have t2 := h.1
      replace h := h.2
      have v3 := h.1
      replace h := h.2
      refine x_iald C hW t2 v3 dX12_copies_52 ?_
      have t4 := h.1
      replace h := h.2
      have v5 := h.1
      replace h := h.2
      refine x_iast C hW hS t4 v5 dX12_copies_53 (fun H locs hW hS => ?_)
      obtain ⟨s6, e_s6⟩ : ∃ z : Mem, z = (sI σ (mR σ l0 47) (((16 : Int32) * l1) + l3).toNatClampNeg (mI σ (mR σ l0 31) (((16 : Int32) * l2) + l3).toNatClampNeg)) := ⟨_, rfl⟩
      replace h := h s6 e_s6
      replace hW : Wd G D tc b0 s6 H := by rw [e_s6]; exact hW
      refine x_aload_n C hl dX12_copies_54 rfl ?_
      refine x_get C hW (t := 12) (k := 48) t1 kl_12 (by decide) fl_X12_138 (v := rv b0 (mR s6 l0 48)) rfl dX12_copies_55 ?_
      refine lv_bipush (v := (16 : Int32)) hx hb dX12_copies_58 (by decide) ?_
      refine x_iload_n C hl dX12_copies_60 rfl ?_
      refine lv_imul hx hb dX12_copies_61 ?_
      refine x_iload_n C hl dX12_copies_62 rfl ?_
      refine lv_iadd hx hb dX12_copies_63 ?_
      refine x_aload_n C hl dX12_copies_64 rfl ?_
      refine x_get C hW (t := 12) (k := 31) t1 kl_12 (by decide) fl_X12_89 (v := rv b0 (mR s6 l0 31)) rfl dX12_copies_65 ?_
      refine lv_bipush (v := (16 : Int32)) hx hb dX12_copies_68 (by decide) ?_
      refine x_iload_n C hl dX12_copies_70 rfl ?_
      refine lv_imul hx hb dX12_copies_71 ?_
      refine x_iload_n C hl dX12_copies_72 rfl ?_
      refine lv_iadd hx hb dX12_copies_73 ?_
      have t7 := h.1
      replace h := h.2
      have v8 := h.1
      replace h := h.2
      refine x_iald C hW t7 v8 dX12_copies_74 ?_
      have t9 := h.1
      replace h := h.2
      have v10 := h.1
      replace h := h.2
      refine x_iast C hW hS t9 v10 dX12_copies_75 (fun H locs hW hS => ?_)
      obtain ⟨s11, e_s11⟩ : ∃ z : Mem, z = (sI s6 (mR s6 l0 48) (((16 : Int32) * l1) + l3).toNatClampNeg (mI s6 (mR s6 l0 31) (((16 : Int32) * l2) + l3).toNatClampNeg)) := ⟨_, rfl⟩
      replace h := h s11 e_s11
      replace hW : Wd G D tc b0 s11 H := by rw [e_s11]; exact hW
      refine x_iinc C hl dX12_copies_76 rfl (v := (1 : Int32)) (by decide) (by decide) rfl (fun ls hl => ?_)
      refine lv_goto hx hb dX12_copies_79 (tgt := 26) rfl ?_
      exact hK26 _ _ _ _ _ hS hW (hl.keep [true, true, true, true] rfl) h
set_option maxRecDepth 20000 in
set_option maxHeartbeats 4000000 in
theorem t_X12_copies_26 {p : Program} {l : Launch} {e : Env} {s : State} {m : MethodId} {args : Array Value} {below : List Frame} {meth : Method} {c : Code} {H : Heap} {locs : List Loc} {D : va_G} {tc : Nat → ClassId} {b0 : Nat} {ls : Array Slot} {G : Lay} {Qx : Mem → Prop} {l0 : Nat} {l1 : Int32} {l2 : Int32} {l3 : Int32}  {σ : Mem} (C : Cx p s m args meth c cX12_copies RX12 4 D tc b0) (hr : meth.sig.returnType = (none : Option FieldType)) (hS : va_S (AA b0) s.heap H locs) (hW : Wd G D tc b0 σ H) (hl : hL b0 ls 4 [some (.inr (.inr l0)), some (.inl l1), some (.inl l2), some (.inl l3)]) (h : X_X12_copies_26 G Qx l0 l1 l2 l3 σ) : W p l e rm_X12_copies s m args below meth c H locs 0 0 (MQ below (va_Qv Qx (fun u t => Pw G D tc b0 u t) (AA b0)) args s 0 0 (AA b0)) (F0 m 26 ls []) := by
  obtain ⟨n, h⟩ := h
  exact t_X12_copies_26_n C hr n l3 σ H locs ls hS hW hl h
set_option maxRecDepth 20000 in
set_option maxHeartbeats 4000000 in
theorem t_X12_copies_0 {p : Program} {l : Launch} {e : Env} {s : State} {m : MethodId} {args : Array Value} {below : List Frame} {meth : Method} {c : Code} {H : Heap} {locs : List Loc} {D : va_G} {tc : Nat → ClassId} {b0 : Nat} {ls : Array Slot} {G : Lay} {Qx : Mem → Prop} {l0 : Nat} {l1 : Int32} {l2 : Int32}  {σ : Mem} (C : Cx p s m args meth c cX12_copies RX12 4 D tc b0) (hr : meth.sig.returnType = (none : Option FieldType)) (hS : va_S (AA b0) s.heap H locs) (hW : Wd G D tc b0 σ H) (hl : hL b0 ls 4 [some (.inr (.inr l0)), some (.inl l1), some (.inl l2), none]) (h : X_X12_copies_0 G Qx l0 l1 l2  σ) : W p l e rm_X12_copies s m args below meth c H locs 0 0 (MQ below (va_Qv Qx (fun u t => Pw G D tc b0 u t) (AA b0)) args s 0 0 (AA b0)) (F0 m 0 ls []) := by
  have hx := C.1
  have hb := C.2.1
  unfold X_X12_copies_0 at h
  refine x_aload_n C hl dX12_copies_0 rfl ?_
  have t1 := h.1
  replace h := h.2
  refine x_get C hW (t := 12) (k := 45) t1 kl_12 (by decide) fl_X12_129 (v := rv b0 (mR σ l0 45)) rfl dX12_copies_1 ?_
  refine x_iload_n C hl dX12_copies_4 rfl ?_
  refine x_aload_n C hl dX12_copies_5 rfl ?_
  refine x_get C hW (t := 12) (k := 29) t1 kl_12 (by decide) fl_X12_83 (v := rv b0 (mR σ l0 29)) rfl dX12_copies_6 ?_
  refine x_iload_n C hl dX12_copies_9 rfl ?_
  have t2 := h.1
  replace h := h.2
  have v3 := h.1
  replace h := h.2
  refine x_iald C hW t2 v3 dX12_copies_10 ?_
  have t4 := h.1
  replace h := h.2
  have v5 := h.1
  replace h := h.2
  refine x_iast C hW hS t4 v5 dX12_copies_11 (fun H locs hW hS => ?_)
  obtain ⟨s6, e_s6⟩ : ∃ z : Mem, z = (sI σ (mR σ l0 45) l1.toNatClampNeg (mI σ (mR σ l0 29) l2.toNatClampNeg)) := ⟨_, rfl⟩
  replace h := h s6 e_s6
  replace hW : Wd G D tc b0 s6 H := by rw [e_s6]; exact hW
  refine x_aload_n C hl dX12_copies_12 rfl ?_
  refine x_get C hW (t := 12) (k := 46) t1 kl_12 (by decide) fl_X12_132 (v := rv b0 (mR s6 l0 46)) rfl dX12_copies_13 ?_
  refine x_iload_n C hl dX12_copies_16 rfl ?_
  refine x_aload_n C hl dX12_copies_17 rfl ?_
  refine x_get C hW (t := 12) (k := 30) t1 kl_12 (by decide) fl_X12_86 (v := rv b0 (mR s6 l0 30)) rfl dX12_copies_18 ?_
  refine x_iload_n C hl dX12_copies_21 rfl ?_
  have t7 := h.1
  replace h := h.2
  have v8 := h.1
  replace h := h.2
  refine x_iald C hW t7 v8 dX12_copies_22 ?_
  have t9 := h.1
  replace h := h.2
  have v10 := h.1
  replace h := h.2
  refine x_iast C hW hS t9 v10 dX12_copies_23 (fun H locs hW hS => ?_)
  obtain ⟨s11, e_s11⟩ : ∃ z : Mem, z = (sI s6 (mR s6 l0 46) l1.toNatClampNeg (mI s6 (mR s6 l0 30) l2.toNatClampNeg)) := ⟨_, rfl⟩
  replace h := h s11 e_s11
  replace hW : Wd G D tc b0 s11 H := by rw [e_s11]; exact hW
  refine lv_iconst (v := (0 : Int32)) hx hb dX12_copies_24 (by decide) ?_
  refine x_istore_n C hl dX12_copies_25 (by decide) rfl (fun ls hl => ?_)
  exact t_X12_copies_26 C hr hS hW (hl.keep [true, true, true, true] rfl) h
theorem T_X12_copies (l : Launch) {G : Lay} {D : va_G} {tc : Nat → ClassId} {b0 : Nat} (l0 : Nat) (l1 : Int32) (l2 : Int32) (σ : Mem) (Qx : Mem → Prop) (h : X_X12_copies G Qx l0 l1 l2 σ) : MV l yX12_copies cX12_copies 4 ((none : Option FieldType)) rm_X12_copies G D tc b0 [rv b0 l0, .int l1, .int l2] σ Qx :=
  x_entry (y := yX12_copies) [.inr (.inr l0), .inl l1, .inl l2] 1 (by decide) (Nat.le_of_ble_eq_true rfl) (fun p e s m args below meth c ls C hr hW hl => t_X12_copies_0 C hr va_S.rf hW (hl.keep [true, true, true, false] rfl) h)
/-! X12_load -/
set_option maxRecDepth 20000 in
set_option maxHeartbeats 4000000 in
theorem t_X12_load_0 {p : Program} {l : Launch} {e : Env} {s : State} {m : MethodId} {args : Array Value} {below : List Frame} {meth : Method} {c : Code} {H : Heap} {locs : List Loc} {D : va_G} {tc : Nat → ClassId} {b0 : Nat} {ls : Array Slot} {G : Lay} {Qx : Mem → Prop} {l0 : Nat} {l1 : Int32}  {σ : Mem} (C : Cx p s m args meth c cX12_load RX12 3 D tc b0) (hr : meth.sig.returnType = (none : Option FieldType)) (hS : va_S (AA b0) s.heap H locs) (hW : Wd G D tc b0 σ H) (hl : hL b0 ls 3 [some (.inr (.inr l0)), some (.inl l1), none]) (h : X_X12_load_0 G Qx l0 l1  σ) : W p l e rm_X12_load s m args below meth c H locs 0 0 (MQ below (va_Qv Qx (fun u t => Pw G D tc b0 u t) (AA b0)) args s 0 0 (AA b0)) (F0 m 0 ls []) := by
  have hx := C.1
  have hb := C.2.1
  unfold X_X12_load_0 at h
  refine x_aload_n C hl dX12_load_0 rfl ?_
  have t1 := h.1
  replace h := h.2
  refine x_get C hW (t := 12) (k := 42) t1 kl_12 (by decide) fl_X12_120 (v := rv b0 (mR σ l0 42)) rfl dX12_load_1 ?_
  refine x_iload_n C hl dX12_load_4 rfl ?_
  have t2 := h.1
  replace h := h.2
  have v3 := h.1
  replace h := h.2
  refine x_iald C hW t2 v3 dX12_load_5 ?_
  refine lv_if_eq hx hb dX12_load_6 (tgt := 10) rfl (fun hc => ?_) (fun hc => ?_)
  · replace h := h.1 hc
    refine x_aload_n C hl dX12_load_10 rfl ?_
    refine x_aload_n C hl dX12_load_11 rfl ?_
    refine x_get C hW (t := 12) (k := 43) t1 kl_12 (by decide) fl_X12_123 (v := rv b0 (mR σ l0 43)) rfl dX12_load_12 ?_
    refine x_iload_n C hl dX12_load_15 rfl ?_
    have t4 := h.1
    replace h := h.2
    have v5 := h.1
    replace h := h.2
    refine x_iald C hW t4 v5 dX12_load_16 ?_
    refine x_aload_n C hl dX12_load_17 rfl ?_
    refine x_get C hW (t := 12) (k := 44) t1 kl_12 (by decide) fl_X12_126 (v := rv b0 (mR σ l0 44)) rfl dX12_load_18 ?_
    refine x_iload_n C hl dX12_load_21 rfl ?_
    have t6 := h.1
    replace h := h.2
    have v7 := h.1
    replace h := h.2
    refine x_iald C hW t6 v7 dX12_load_22 ?_
    refine y_i (x_run (As := [.int (mI σ (mR σ l0 43) l1.toNatClampNeg), .int (mI σ (mR σ l0 44) l1.toNatClampNeg)]) C hW hS (T_X12_rowOf l l0 (mI σ (mR σ l0 43) l1.toNatClampNeg) (mI σ (mR σ l0 44) l1.toNatClampNeg) σ _ h) t1 kl_12 (CW.of yv_X12_rowOf ml_X12_369) ⟨rfl, rfl, ⟨by decide, by decide⟩, by decide, by decide⟩ rfl hl.1 rfl (by decide) dX12_load_23) hS (fun w9 s8 H locs h hW hS => ?_)
    refine x_istore_n C hl dX12_load_26 (by decide) rfl (fun ls hl => ?_)
    refine x_iload_n C hl dX12_load_27 rfl ?_
    refine lv_if_ge hx hb dX12_load_28 (tgt := 39) rfl (fun hc => ?_) (fun hc => ?_)
    · replace h := h.1 hc
      refine x_aload_n C hl dX12_load_39 rfl ?_
      refine x_get C hW (t := 12) (k := 42) t1 kl_12 (by decide) fl_X12_120 (v := rv b0 (mR s8 l0 42)) rfl dX12_load_40 ?_
      refine x_iload_n C hl dX12_load_43 rfl ?_
      refine lv_iconst (v := (1 : Int32)) hx hb dX12_load_44 (by decide) ?_
      have t10 := h.1
      replace h := h.2
      have v11 := h.1
      replace h := h.2
      refine x_iast C hW hS t10 v11 dX12_load_45 (fun H locs hW hS => ?_)
      obtain ⟨s12, e_s12⟩ : ∃ z : Mem, z = (sI s8 (mR s8 l0 42) l1.toNatClampNeg (1 : Int32)) := ⟨_, rfl⟩
      replace h := h s12 e_s12
      replace hW : Wd G D tc b0 s12 H := by rw [e_s12]; exact hW
      refine x_aload_n C hl dX12_load_46 rfl ?_
      refine x_get C hW (t := 12) (k := 41) t1 kl_12 (by decide) fl_X12_117 (v := rv b0 (mR s12 l0 41)) rfl dX12_load_47 ?_
      refine x_iload_n C hl dX12_load_50 rfl ?_
      refine lv_bipush (v := (60 : Int32)) hx hb dX12_load_51 (by decide) ?_
      refine lv_idiv hx hb dX12_load_53 (by decide) ?_
      refine lv_dup2_11 hx hb dX12_load_54 rfl (rv_cat _ _) ?_
      have t13 := h.1
      replace h := h.2
      have v14 := h.1
      replace h := h.2
      refine x_iald C hW t13 v14 dX12_load_55 ?_
      refine lv_iconst (v := (1 : Int32)) hx hb dX12_load_56 (by decide) ?_
      refine lv_iadd hx hb dX12_load_57 ?_
      refine x_iast C hW hS t13 v14 dX12_load_58 (fun H locs hW hS => ?_)
      obtain ⟨s15, e_s15⟩ : ∃ z : Mem, z = (sI s12 (mR s12 l0 41) (l1 / (60 : Int32)).toNatClampNeg ((mI s12 (mR s12 l0 41) (l1 / (60 : Int32)).toNatClampNeg) + (1 : Int32))) := ⟨_, rfl⟩
      replace h := h s15 e_s15
      replace hW : Wd G D tc b0 s15 H := by rw [e_s15]; exact hW
      refine x_aload_n C hl dX12_load_59 rfl ?_
      refine x_iload_n C hl dX12_load_60 rfl ?_
      refine x_iload_n C hl dX12_load_61 rfl ?_
      refine y_v (x_run (As := [.int l1, .int w9]) C hW hS (T_X12_copies l l0 l1 w9 s15 _ h) t1 kl_12 (CW.of yv_X12_copies ml_X12_390) ⟨rfl, rfl, ⟨by decide, by decide⟩, by decide, by decide⟩ rfl hl.1 rfl (by decide) dX12_load_62) hS (fun s16 H locs h hW hS => ?_)
      exact r_v C hr hW hS h dX12_load_65
    · replace h := h.2 hc
      refine x_aload_n C hl dX12_load_31 rfl ?_
      refine x_get C hW (t := 12) (k := 42) t1 kl_12 (by decide) fl_X12_120 (v := rv b0 (mR s8 l0 42)) rfl dX12_load_32 ?_
      refine x_iload_n C hl dX12_load_35 rfl ?_
      refine lv_iconst (v := (4 : Int32)) hx hb dX12_load_36 (by decide) ?_
      have t17 := h.1
      replace h := h.2
      have v18 := h.1
      replace h := h.2
      refine x_iast C hW hS t17 v18 dX12_load_37 (fun H locs hW hS => ?_)
      obtain ⟨s19, e_s19⟩ : ∃ z : Mem, z = (sI s8 (mR s8 l0 42) l1.toNatClampNeg (4 : Int32)) := ⟨_, rfl⟩
      replace h := h s19 e_s19
      replace hW : Wd G D tc b0 s19 H := by rw [e_s19]; exact hW
      exact r_v C hr hW hS h dX12_load_38
  · replace h := h.2 hc
    exact r_v C hr hW hS h dX12_load_9
theorem T_X12_load (l : Launch) {G : Lay} {D : va_G} {tc : Nat → ClassId} {b0 : Nat} (l0 : Nat) (l1 : Int32) (σ : Mem) (Qx : Mem → Prop) (h : X_X12_load G Qx l0 l1 σ) : MV l yX12_load cX12_load 3 ((none : Option FieldType)) rm_X12_load G D tc b0 [rv b0 l0, .int l1] σ Qx :=
  x_entry (y := yX12_load) [.inr (.inr l0), .inl l1] 1 (by decide) (Nat.le_of_ble_eq_true rfl) (fun p e s m args below meth c ls C hr hW hl => t_X12_load_0 C hr va_S.rf hW (hl.keep [true, true, false] rfl) h)
/-! X12_isLive -/
set_option maxRecDepth 20000 in
set_option maxHeartbeats 4000000 in
theorem t_X12_isLive_25 {p : Program} {l : Launch} {e : Env} {s : State} {m : MethodId} {args : Array Value} {below : List Frame} {meth : Method} {c : Code} {H : Heap} {locs : List Loc} {D : va_G} {tc : Nat → ClassId} {b0 : Nat} {ls : Array Slot} {G : Lay} {Qx : Int32 → Mem → Prop}  {k0 : Int32} {σ : Mem} (C : Cx p s m args meth c cX12_isLive RX12 2 D tc b0) (hr : meth.sig.returnType = (some FieldType.boolean)) (hS : va_S (AA b0) s.heap H locs) (hW : Wd G D tc b0 σ H) (hl : hL b0 ls 2 [none, none]) (h : X_X12_isLive_25 G Qx  k0 σ) : W p l e rm_X12_isLive s m args below meth c H locs 0 0 (MQ below (va_Qi Qx (fun u t => Pw G D tc b0 u t) (AA b0)) args s 0 0 (AA b0)) (F0 m 25 ls [.int k0]) := by
  have hx := C.1
  have hb := C.2.1
  unfold X_X12_isLive_25 at h
  exact r_z C hr hW hS h.1 h.2 dX12_isLive_25
set_option maxRecDepth 20000 in
set_option maxHeartbeats 4000000 in
theorem t_X12_isLive_20 {p : Program} {l : Launch} {e : Env} {s : State} {m : MethodId} {args : Array Value} {below : List Frame} {meth : Method} {c : Code} {H : Heap} {locs : List Loc} {D : va_G} {tc : Nat → ClassId} {b0 : Nat} {ls : Array Slot} {G : Lay} {Qx : Int32 → Mem → Prop}   {σ : Mem} (C : Cx p s m args meth c cX12_isLive RX12 2 D tc b0) (hr : meth.sig.returnType = (some FieldType.boolean)) (hS : va_S (AA b0) s.heap H locs) (hW : Wd G D tc b0 σ H) (hl : hL b0 ls 2 [none, none]) (h : X_X12_isLive_20 G Qx   σ) : W p l e rm_X12_isLive s m args below meth c H locs 0 0 (MQ below (va_Qi Qx (fun u t => Pw G D tc b0 u t) (AA b0)) args s 0 0 (AA b0)) (F0 m 20 ls []) := by
  have hx := C.1
  have hb := C.2.1
  unfold X_X12_isLive_20 at h
  refine lv_iconst (v := (1 : Int32)) hx hb dX12_isLive_20 (by decide) ?_
  refine lv_goto hx hb dX12_isLive_21 (tgt := 25) rfl ?_
  exact t_X12_isLive_25 C hr hS hW (hl.keep [false, false] rfl) h
set_option maxRecDepth 20000 in
set_option maxHeartbeats 4000000 in
theorem t_X12_isLive_0 {p : Program} {l : Launch} {e : Env} {s : State} {m : MethodId} {args : Array Value} {below : List Frame} {meth : Method} {c : Code} {H : Heap} {locs : List Loc} {D : va_G} {tc : Nat → ClassId} {b0 : Nat} {ls : Array Slot} {G : Lay} {Qx : Int32 → Mem → Prop} {l0 : Nat} {l1 : Int32}  {σ : Mem} (C : Cx p s m args meth c cX12_isLive RX12 2 D tc b0) (hr : meth.sig.returnType = (some FieldType.boolean)) (hS : va_S (AA b0) s.heap H locs) (hW : Wd G D tc b0 σ H) (hl : hL b0 ls 2 [some (.inr (.inr l0)), some (.inl l1)]) (h : X_X12_isLive_0 G Qx l0 l1  σ) : W p l e rm_X12_isLive s m args below meth c H locs 0 0 (MQ below (va_Qi Qx (fun u t => Pw G D tc b0 u t) (AA b0)) args s 0 0 (AA b0)) (F0 m 0 ls []) := by
  have hx := C.1
  have hb := C.2.1
  unfold X_X12_isLive_0 at h
  refine x_aload_n C hl dX12_isLive_0 rfl ?_
  have t1 := h.1
  replace h := h.2
  refine x_get C hW (t := 12) (k := 42) t1 kl_12 (by decide) fl_X12_120 (v := rv b0 (mR σ l0 42)) rfl dX12_isLive_1 ?_
  refine x_iload_n C hl dX12_isLive_4 rfl ?_
  have t2 := h.1
  replace h := h.2
  have v3 := h.1
  replace h := h.2
  refine x_iald C hW t2 v3 dX12_isLive_5 ?_
  refine lv_iconst (v := (1 : Int32)) hx hb dX12_isLive_6 (by decide) ?_
  refine lv_icmp_eq hx hb dX12_isLive_7 (tgt := 20) rfl (fun hc => ?_) (fun hc => ?_)
  · replace h := h.1 hc
    exact t_X12_isLive_20 C hr hS hW (hl.keep [false, false] rfl) h
  · replace h := h.2 hc
    refine x_aload_n C hl dX12_isLive_10 rfl ?_
    refine x_get C hW (t := 12) (k := 42) t1 kl_12 (by decide) fl_X12_120 (v := rv b0 (mR σ l0 42)) rfl dX12_isLive_11 ?_
    refine x_iload_n C hl dX12_isLive_14 rfl ?_
    refine x_iald C hW t2 v3 dX12_isLive_15 ?_
    refine lv_iconst (v := (2 : Int32)) hx hb dX12_isLive_16 (by decide) ?_
    refine lv_icmp_ne hx hb dX12_isLive_17 (tgt := 24) rfl (fun hc => ?_) (fun hc => ?_)
    · replace h := h.2 hc
      refine lv_iconst (v := (0 : Int32)) hx hb dX12_isLive_24 (by decide) ?_
      exact t_X12_isLive_25 C hr hS hW (hl.keep [false, false] rfl) h
    · replace h := h.1 hc
      exact t_X12_isLive_20 C hr hS hW (hl.keep [false, false] rfl) h
theorem T_X12_isLive (l : Launch) {G : Lay} {D : va_G} {tc : Nat → ClassId} {b0 : Nat} (l0 : Nat) (l1 : Int32) (σ : Mem) (Qx : Int32 → Mem → Prop) (h : X_X12_isLive G Qx l0 l1 σ) : MI l yX12_isLive cX12_isLive 2 ((some FieldType.boolean)) rm_X12_isLive G D tc b0 [rv b0 l0, .int l1] σ Qx :=
  x_entry (y := yX12_isLive) [.inr (.inr l0), .inl l1] 0 (by decide) (Nat.le_of_ble_eq_true rfl) (fun p e s m args below meth c ls C hr hW hl => t_X12_isLive_0 C hr va_S.rf hW (hl.keep [true, true] rfl) h)
