/-! X8_isKeyword -/
set_option maxRecDepth 20000 in
set_option maxHeartbeats 4000000 in
theorem t_X8_isKeyword_2_n {p : Program} {l : Launch} {e : Env} {s : State} {m : MethodId} {args : Array Value} {below : List Frame} {meth : Method} {c : Code} {D : va_G} {tc : Nat → ClassId} {b0 : Nat} {G : Lay} {Qx : Int32 → Mem → Prop} {l0 : Int64} (C : Cx p s m args meth c cX8_isKeyword RX8 3 D tc b0) (hr : meth.sig.returnType = (some FieldType.boolean)) (n : Nat) : ∀ (l2 : Int32) (σ : Mem) (H : Heap) (locs : List Loc) (ls : Array Slot), va_S (AA b0) s.heap H locs → Wd G D tc b0 σ H → hL b0 ls 3 [some (.inr (.inl l0)), none, some (.inl l2)] → Lp (X_X8_isKeyword_2_s G Qx l0) n (l2, σ) → W p l e rm_X8_isKeyword s m args below meth c H locs 0 0 (MQ below (va_Qi Qx (fun u t => Pw G D tc b0 u t) (AA b0)) args s 0 0 (AA b0)) (F0 m 2 ls []) := by
  have hx := C.1
  have hb := C.2.1
  induction n with
  | zero => intro l2 σ H locs ls hS hW hl h; exact False.elim h
  | succ n hK2 =>
    intro l2 σ H locs ls hS hW hl h
    replace h : X_X8_isKeyword_2_s G Qx l0 (Lp (X_X8_isKeyword_2_s G Qx l0) n) (l2, σ) := h
    unfold X_X8_isKeyword_2_s at h
    refine x_iload_n C hl dX8_isKeyword_2 rfl ?_
    obtain ⟨tK, adK, adV, hZ1, hT1, hV1, hR1, hZ2⟩ := C.2.2.2.2.2.2.2
    refine va_gets (own := RX8) hx hb hZ1 hS C.2.2.2.1 (C.2.2.2.2.1 _ (gc3 87 rfl rfl)) (fun _ h => h) dX8_isKeyword_3 ?_
    refine va_tlen hx hb hT1 hS (v := (23 : Int32)) rfl dX8_isKeyword_6 ?_
    refine lv_icmp_ge hx hb dX8_isKeyword_7 (tgt := 28) rfl (fun hc => ?_) (fun hc => ?_)
    · replace h := h.1 hc
      refine lv_iconst (v := (0 : Int32)) hx hb dX8_isKeyword_28 (by decide) ?_
      exact r_z C hr hW hS h.1 h.2 dX8_isKeyword_29
    · replace h := h.2 hc
      obtain ⟨tK, adK, adV, hZ1, hT1, hV1, hR1, hZ2⟩ := C.2.2.2.2.2.2.2
      refine va_gets (own := RX8) hx hb hZ1 hS C.2.2.2.1 (C.2.2.2.2.1 _ (gc3 87 rfl rfl)) (fun _ h => h) dX8_isKeyword_10 ?_
      refine x_iload_n C hl dX8_isKeyword_13 rfl ?_
      have v1 := h.1
      replace h := h.2
      refine va_tl hx hb hT1 hS v1 (v := .long (kwv.getD l2.toNatClampNeg 0)) rfl dX8_isKeyword_14 ?_
      refine x_lload_n C hl dX8_isKeyword_15 rfl ?_
      refine W.lcmp hx hb dX8_isKeyword_16 ?_
      refine lv_if_ne hx hb dX8_isKeyword_17 (tgt := 22) rfl (fun hc => ?_) (fun hc => ?_)
      · replace h := h.2 hc
        refine x_iinc C hl dX8_isKeyword_22 rfl (v := (1 : Int32)) (by decide) (by decide) rfl (fun ls hl => ?_)
        refine lv_goto hx hb dX8_isKeyword_25 (tgt := 2) rfl ?_
        exact hK2 _ _ _ _ _ hS hW (hl.keep [true, false, true] rfl) h
      · replace h := h.1 hc
        refine lv_iconst (v := (1 : Int32)) hx hb dX8_isKeyword_20 (by decide) ?_
        exact r_z C hr hW hS h.1 h.2 dX8_isKeyword_21
set_option maxRecDepth 20000 in
set_option maxHeartbeats 4000000 in
theorem t_X8_isKeyword_2 {p : Program} {l : Launch} {e : Env} {s : State} {m : MethodId} {args : Array Value} {below : List Frame} {meth : Method} {c : Code} {H : Heap} {locs : List Loc} {D : va_G} {tc : Nat → ClassId} {b0 : Nat} {ls : Array Slot} {G : Lay} {Qx : Int32 → Mem → Prop} {l0 : Int64} {l2 : Int32}  {σ : Mem} (C : Cx p s m args meth c cX8_isKeyword RX8 3 D tc b0) (hr : meth.sig.returnType = (some FieldType.boolean)) (hS : va_S (AA b0) s.heap H locs) (hW : Wd G D tc b0 σ H) (hl : hL b0 ls 3 [some (.inr (.inl l0)), none, some (.inl l2)]) (h : X_X8_isKeyword_2 G Qx l0 l2 σ) : W p l e rm_X8_isKeyword s m args below meth c H locs 0 0 (MQ below (va_Qi Qx (fun u t => Pw G D tc b0 u t) (AA b0)) args s 0 0 (AA b0)) (F0 m 2 ls []) := by
  obtain ⟨n, h⟩ := h
  exact t_X8_isKeyword_2_n C hr n l2 σ H locs ls hS hW hl h
set_option maxRecDepth 20000 in
set_option maxHeartbeats 4000000 in
theorem t_X8_isKeyword_0 {p : Program} {l : Launch} {e : Env} {s : State} {m : MethodId} {args : Array Value} {below : List Frame} {meth : Method} {c : Code} {H : Heap} {locs : List Loc} {D : va_G} {tc : Nat → ClassId} {b0 : Nat} {ls : Array Slot} {G : Lay} {Qx : Int32 → Mem → Prop} {l0 : Int64}  {σ : Mem} (C : Cx p s m args meth c cX8_isKeyword RX8 3 D tc b0) (hr : meth.sig.returnType = (some FieldType.boolean)) (hS : va_S (AA b0) s.heap H locs) (hW : Wd G D tc b0 σ H) (hl : hL b0 ls 3 [some (.inr (.inl l0)), none, none]) (h : X_X8_isKeyword_0 G Qx l0  σ) : W p l e rm_X8_isKeyword s m args below meth c H locs 0 0 (MQ below (va_Qi Qx (fun u t => Pw G D tc b0 u t) (AA b0)) args s 0 0 (AA b0)) (F0 m 0 ls []) := by
  have hx := C.1
  have hb := C.2.1
  unfold X_X8_isKeyword_0 at h
  refine lv_iconst (v := (0 : Int32)) hx hb dX8_isKeyword_0 (by decide) ?_
  refine x_istore_n C hl dX8_isKeyword_1 (by decide) rfl (fun ls hl => ?_)
  exact t_X8_isKeyword_2 C hr hS hW (hl.keep [true, false, true] rfl) h
theorem T_X8_isKeyword (l : Launch) {G : Lay} {D : va_G} {tc : Nat → ClassId} {b0 : Nat} (l0 : Int64) (σ : Mem) (Qx : Int32 → Mem → Prop) (h : X_X8_isKeyword G Qx l0 σ) : MI l yX8_isKeyword cX8_isKeyword 3 ((some FieldType.boolean)) rm_X8_isKeyword G D tc b0 [.long l0] σ Qx :=
  x_entry (y := yX8_isKeyword) [.inr (.inl l0)] 1 (by decide) (Nat.le_of_ble_eq_true rfl) (fun p e s m args below meth c ls C hr hW hl => t_X8_isKeyword_0 C hr va_S.rf hW (hl.keep [true, false, false] rfl) h)
/-! X8_keepWord -/
set_option maxRecDepth 20000 in
set_option maxHeartbeats 4000000 in
theorem t_X8_keepWord_82 {p : Program} {l : Launch} {e : Env} {s : State} {m : MethodId} {args : Array Value} {below : List Frame} {meth : Method} {c : Code} {H : Heap} {locs : List Loc} {D : va_G} {tc : Nat → ClassId} {b0 : Nat} {ls : Array Slot} {G : Lay} {Qx : Mem → Prop}  {k0 : Nat} {k1 : Int32} {k2 : Int32} {σ : Mem} (C : Cx p s m args meth c cX8_keepWord RX8 7 D tc b0) (hr : meth.sig.returnType = (none : Option FieldType)) (hS : va_S (AA b0) s.heap H locs) (hW : Wd G D tc b0 σ H) (hl : hL b0 ls 7 [none, none, none, none, none, none, none]) (h : X_X8_keepWord_82 G Qx  k0 k1 k2 σ) : W p l e rm_X8_keepWord s m args below meth c H locs 0 0 (MQ below (va_Qv Qx (fun u t => Pw G D tc b0 u t) (AA b0)) args s 0 0 (AA b0)) (F0 m 82 ls [.int k2, .int k1, rv b0 k0]) := by
  have hx := C.1
  have hb := C.2.1
  unfold X_X8_keepWord_82 at h
  have t1 := h.1
  replace h := h.2
  have v2 := h.1
  replace h := h.2
  refine x_iast C hW hS t1 v2 dX8_keepWord_82 (fun H locs hW hS => ?_)
  obtain ⟨s3, e_s3⟩ : ∃ z : Mem, z = (sI σ k0 k1.toNatClampNeg k2) := ⟨_, rfl⟩
  replace h := h s3 e_s3
  replace hW : Wd G D tc b0 s3 H := by rw [e_s3]; exact hW
  exact r_v C hr hW hS h dX8_keepWord_83
set_option maxRecDepth 20000 in
set_option maxHeartbeats 4000000 in
theorem t_X8_keepWord_25_n {p : Program} {l : Launch} {e : Env} {s : State} {m : MethodId} {args : Array Value} {below : List Frame} {meth : Method} {c : Code} {D : va_G} {tc : Nat → ClassId} {b0 : Nat} {G : Lay} {Qx : Mem → Prop} {l0 : Nat} {l1 : Nat} {l3 : Int32} (C : Cx p s m args meth c cX8_keepWord RX8 7 D tc b0) (hr : meth.sig.returnType = (none : Option FieldType)) (n : Nat) : ∀ (l4 : Int64) (l6 : Int32) (σ : Mem) (H : Heap) (locs : List Loc) (ls : Array Slot), va_S (AA b0) s.heap H locs → Wd G D tc b0 σ H → hL b0 ls 7 [some (.inr (.inr l0)), some (.inr (.inr l1)), none, some (.inl l3), some (.inr (.inl l4)), none, some (.inl l6)] → Lp (X_X8_keepWord_25_s G Qx l0 l1 l3) n (l4, l6, σ) → W p l e rm_X8_keepWord s m args below meth c H locs 0 0 (MQ below (va_Qv Qx (fun u t => Pw G D tc b0 u t) (AA b0)) args s 0 0 (AA b0)) (F0 m 25 ls []) := by
  have hx := C.1
  have hb := C.2.1
  induction n with
  | zero => intro l4 l6 σ H locs ls hS hW hl h; exact False.elim h
  | succ n hK25 =>
    intro l4 l6 σ H locs ls hS hW hl h
    replace h : X_X8_keepWord_25_s G Qx l0 l1 l3 (Lp (X_X8_keepWord_25_s G Qx l0 l1 l3) n) (l4, l6, σ) := h
    unfold X_X8_keepWord_25_s at h
    refine x_iload C hl dX8_keepWord_25 rfl ?_
    refine x_iload_n C hl dX8_keepWord_27 rfl ?_
    refine lv_icmp_ge hx hb dX8_keepWord_28 (tgt := 50) rfl (fun hc => ?_) (fun hc => ?_)
    · replace h := h.1 hc
      refine x_aload_n C hl dX8_keepWord_50 rfl ?_
      have t1 := h.1
      replace h := h.2
      refine x_get C hW (t := 8) (k := 2) t1 kl_8 (by decide) fl_X8_18 (v := rv b0 (mR σ l0 2)) rfl dX8_keepWord_51 ?_
      refine x_aload_n C hl dX8_keepWord_54 rfl ?_
      refine x_get C hW (t := 8) (k := 3) t1 kl_8 (by decide) fl_X8_32 (v := .int (mI σ l0 3)) rfl dX8_keepWord_55 ?_
      refine x_lload C hl dX8_keepWord_58 rfl ?_
      have t2 := h.1
      replace h := h.2
      have v3 := h.1
      replace h := h.2
      refine x_last C hW hS t2 v3 dX8_keepWord_60 (fun H locs hW hS => ?_)
      obtain ⟨s4, e_s4⟩ : ∃ z : Mem, z = (sJ σ (mR σ l0 2) (mI σ l0 3).toNatClampNeg l4) := ⟨_, rfl⟩
      replace h := h s4 e_s4
      replace hW : Wd G D tc b0 s4 H := by rw [e_s4]; exact hW
      refine x_aload_n C hl dX8_keepWord_61 rfl ?_
      refine x_get C hW (t := 8) (k := 0) t1 kl_8 (by decide) fl_X8_9 (v := rv b0 (mR s4 l0 0)) rfl dX8_keepWord_62 ?_
      refine x_aload_n C hl dX8_keepWord_65 rfl ?_
      refine x_get C hW (t := 8) (k := 3) t1 kl_8 (by decide) fl_X8_32 (v := .int (mI s4 l0 3)) rfl dX8_keepWord_66 ?_
      refine x_lload C hl dX8_keepWord_69 rfl ?_
      refine y_i (x_runS (As := [.long l4]) C hW hS (T_X8_isKeyword l l4 s4 _ h) (CS.of yv_X8_isKeyword ml_X8_67) ⟨rfl, rfl, ⟨by decide, by decide⟩, by decide, by decide⟩ rfl hl.1 rfl (by simp [rv_cat, cat_i, cat_l]) dX8_keepWord_71) hS (fun w6 s5 H locs h hW hS => ?_)
      refine lv_if_eq hx hb dX8_keepWord_74 (tgt := 81) rfl (fun hc => ?_) (fun hc => ?_)
      · replace h := h.1 hc
        refine lv_iconst (v := (2 : Int32)) hx hb dX8_keepWord_81 (by decide) ?_
        exact t_X8_keepWord_82 C hr hS hW (hl.keep [false, false, false, false, false, false, false] rfl) h
      · replace h := h.2 hc
        refine lv_iconst (v := (3 : Int32)) hx hb dX8_keepWord_77 (by decide) ?_
        refine lv_goto hx hb dX8_keepWord_78 (tgt := 82) rfl ?_
        exact t_X8_keepWord_82 C hr hS hW (hl.keep [false, false, false, false, false, false, false] rfl) h
    · replace h := h.2 hc
      refine x_lload C hl dX8_keepWord_31 rfl ?_
      refine lv_bipush (v := (8 : Int32)) hx hb dX8_keepWord_33 (by decide) ?_
      refine lv_lshl hx hb dX8_keepWord_35 rfl ?_
      refine x_aload_n C hl dX8_keepWord_36 rfl ?_
      refine x_iload C hl dX8_keepWord_37 rfl ?_
      have t7 := h.1
      replace h := h.2
      have v8 := h.1
      replace h := h.2
      refine x_bald C hW t7 v8 dX8_keepWord_39 ?_
      refine lv_i2l hx hb dX8_keepWord_40 rfl ?_
      refine lv_lor hx hb dX8_keepWord_41 ?_
      refine x_lstore C hl dX8_keepWord_42 (by decide) rfl (fun ls hl => ?_)
      refine x_iinc C hl dX8_keepWord_44 rfl (v := (1 : Int32)) (by decide) (by decide) rfl (fun ls hl => ?_)
      refine lv_goto hx hb dX8_keepWord_47 (tgt := 25) rfl ?_
      exact hK25 _ _ _ _ _ _ hS hW (hl.keep [true, true, false, true, true, false, true] rfl) h
set_option maxRecDepth 20000 in
set_option maxHeartbeats 4000000 in
theorem t_X8_keepWord_25 {p : Program} {l : Launch} {e : Env} {s : State} {m : MethodId} {args : Array Value} {below : List Frame} {meth : Method} {c : Code} {H : Heap} {locs : List Loc} {D : va_G} {tc : Nat → ClassId} {b0 : Nat} {ls : Array Slot} {G : Lay} {Qx : Mem → Prop} {l0 : Nat} {l1 : Nat} {l3 : Int32} {l4 : Int64} {l6 : Int32}  {σ : Mem} (C : Cx p s m args meth c cX8_keepWord RX8 7 D tc b0) (hr : meth.sig.returnType = (none : Option FieldType)) (hS : va_S (AA b0) s.heap H locs) (hW : Wd G D tc b0 σ H) (hl : hL b0 ls 7 [some (.inr (.inr l0)), some (.inr (.inr l1)), none, some (.inl l3), some (.inr (.inl l4)), none, some (.inl l6)]) (h : X_X8_keepWord_25 G Qx l0 l1 l3 l4 l6 σ) : W p l e rm_X8_keepWord s m args below meth c H locs 0 0 (MQ below (va_Qv Qx (fun u t => Pw G D tc b0 u t) (AA b0)) args s 0 0 (AA b0)) (F0 m 25 ls []) := by
  obtain ⟨n, h⟩ := h
  exact t_X8_keepWord_25_n C hr n l4 l6 σ H locs ls hS hW hl h
set_option maxRecDepth 20000 in
set_option maxHeartbeats 4000000 in
theorem t_X8_keepWord_0 {p : Program} {l : Launch} {e : Env} {s : State} {m : MethodId} {args : Array Value} {below : List Frame} {meth : Method} {c : Code} {H : Heap} {locs : List Loc} {D : va_G} {tc : Nat → ClassId} {b0 : Nat} {ls : Array Slot} {G : Lay} {Qx : Mem → Prop} {l0 : Nat} {l1 : Nat} {l2 : Int32} {l3 : Int32}  {σ : Mem} (C : Cx p s m args meth c cX8_keepWord RX8 7 D tc b0) (hr : meth.sig.returnType = (none : Option FieldType)) (hS : va_S (AA b0) s.heap H locs) (hW : Wd G D tc b0 σ H) (hl : hL b0 ls 7 [some (.inr (.inr l0)), some (.inr (.inr l1)), some (.inl l2), some (.inl l3), none, none, none]) (h : X_X8_keepWord_0 G Qx l0 l1 l2 l3  σ) : W p l e rm_X8_keepWord s m args below meth c H locs 0 0 (MQ below (va_Qv Qx (fun u t => Pw G D tc b0 u t) (AA b0)) args s 0 0 (AA b0)) (F0 m 0 ls []) := by
  have hx := C.1
  have hb := C.2.1
  unfold X_X8_keepWord_0 at h
  refine x_aload_n C hl dX8_keepWord_0 rfl ?_
  have t1 := h.1
  replace h := h.2
  refine x_get C hW (t := 8) (k := 0) t1 kl_8 (by decide) fl_X8_9 (v := rv b0 (mR σ l0 0)) rfl dX8_keepWord_1 ?_
  refine x_aload_n C hl dX8_keepWord_4 rfl ?_
  refine x_get C hW (t := 8) (k := 3) t1 kl_8 (by decide) fl_X8_32 (v := .int (mI σ l0 3)) rfl dX8_keepWord_5 ?_
  refine lv_iconst (v := (1 : Int32)) hx hb dX8_keepWord_8 (by decide) ?_
  have t2 := h.1
  replace h := h.2
  have v3 := h.1
  replace h := h.2
  refine x_iast C hW hS t2 v3 dX8_keepWord_9 (fun H locs hW hS => ?_)
  obtain ⟨s4, e_s4⟩ : ∃ z : Mem, z = (sI σ (mR σ l0 0) (mI σ l0 3).toNatClampNeg (1 : Int32)) := ⟨_, rfl⟩
  replace h := h s4 e_s4
  replace hW : Wd G D tc b0 s4 H := by rw [e_s4]; exact hW
  refine x_iload_n C hl dX8_keepWord_10 rfl ?_
  refine x_iload_n C hl dX8_keepWord_11 rfl ?_
  refine lv_isub hx hb dX8_keepWord_12 ?_
  refine lv_bipush (v := (8 : Int32)) hx hb dX8_keepWord_13 (by decide) ?_
  refine lv_icmp_le hx hb dX8_keepWord_15 (tgt := 19) rfl (fun hc => ?_) (fun hc => ?_)
  · replace h := h.1 hc
    refine lv_lconst (v := (0 : Int64)) hx hb dX8_keepWord_19 (by decide) ?_
    refine x_lstore C hl dX8_keepWord_20 (by decide) rfl (fun ls hl => ?_)
    refine x_iload_n C hl dX8_keepWord_22 rfl ?_
    refine x_istore C hl dX8_keepWord_23 (by decide) rfl (fun ls hl => ?_)
    exact t_X8_keepWord_25 C hr hS hW (hl.keep [true, true, false, true, true, false, true] rfl) h
  · replace h := h.2 hc
    exact r_v C hr hW hS h dX8_keepWord_18
theorem T_X8_keepWord (l : Launch) {G : Lay} {D : va_G} {tc : Nat → ClassId} {b0 : Nat} (l0 : Nat) (l1 : Nat) (l2 : Int32) (l3 : Int32) (σ : Mem) (Qx : Mem → Prop) (h : X_X8_keepWord G Qx l0 l1 l2 l3 σ) : MV l yX8_keepWord cX8_keepWord 7 ((none : Option FieldType)) rm_X8_keepWord G D tc b0 [rv b0 l0, rv b0 l1, .int l2, .int l3] σ Qx :=
  x_entry (y := yX8_keepWord) [.inr (.inr l0), .inr (.inr l1), .inl l2, .inl l3] 3 (by decide) (Nat.le_of_ble_eq_true rfl) (fun p e s m args below meth c ls C hr hW hl => t_X8_keepWord_0 C hr va_S.rf hW (hl.keep [true, true, true, true, false, false, false] rfl) h)
/-! X8_keep -/
set_option maxRecDepth 20000 in
set_option maxHeartbeats 4000000 in
theorem t_X8_keep_91 {p : Program} {l : Launch} {e : Env} {s : State} {m : MethodId} {args : Array Value} {below : List Frame} {meth : Method} {c : Code} {H : Heap} {locs : List Loc} {D : va_G} {tc : Nat → ClassId} {b0 : Nat} {ls : Array Slot} {G : Lay} {Qx : Mem → Prop} {l0 : Nat}  {σ : Mem} (C : Cx p s m args meth c cX8_keep RX8 4 D tc b0) (hr : meth.sig.returnType = (none : Option FieldType)) (hS : va_S (AA b0) s.heap H locs) (hW : Wd G D tc b0 σ H) (hl : hL b0 ls 4 [some (.inr (.inr l0)), none, none, none]) (h : X_X8_keep_91 G Qx l0  σ) : W p l e rm_X8_keep s m args below meth c H locs 0 0 (MQ below (va_Qv Qx (fun u t => Pw G D tc b0 u t) (AA b0)) args s 0 0 (AA b0)) (F0 m 91 ls []) := by
  have hx := C.1
  have hb := C.2.1
  unfold X_X8_keep_91 at h
  refine x_aload_n C hl dX8_keep_91 rfl ?_
  refine lv_dup hx hb dX8_keep_92 (rv_cat _ _) ?_
  have t1 := h.1
  replace h := h.2
  refine x_get C hW (t := 8) (k := 3) t1 kl_8 (by decide) fl_X8_32 (v := .int (mI σ l0 3)) rfl dX8_keep_93 ?_
  refine lv_iconst (v := (1 : Int32)) hx hb dX8_keep_96 (by decide) ?_
  refine lv_iadd hx hb dX8_keep_97 ?_
  refine x_putI C hW hS (t := 8) (k := 3) t1 kl_8 (by decide) fl_X8_32 rfl rfl rfl rfl dX8_keep_98 (fun H locs hW hS => ?_)
  obtain ⟨s2, e_s2⟩ : ∃ z : Mem, z = (sI σ l0 3 ((mI σ l0 3) + (1 : Int32))) := ⟨_, rfl⟩
  replace h := h s2 e_s2
  replace hW : Wd G D tc b0 s2 H := by rw [e_s2]; exact hW
  exact r_v C hr hW hS h dX8_keep_101
set_option maxRecDepth 20000 in
set_option maxHeartbeats 4000000 in
theorem t_X8_keep_90 {p : Program} {l : Launch} {e : Env} {s : State} {m : MethodId} {args : Array Value} {below : List Frame} {meth : Method} {c : Code} {H : Heap} {locs : List Loc} {D : va_G} {tc : Nat → ClassId} {b0 : Nat} {ls : Array Slot} {G : Lay} {Qx : Mem → Prop} {l0 : Nat} {k0 : Nat} {k1 : Int32} {k2 : Int32} {σ : Mem} (C : Cx p s m args meth c cX8_keep RX8 4 D tc b0) (hr : meth.sig.returnType = (none : Option FieldType)) (hS : va_S (AA b0) s.heap H locs) (hW : Wd G D tc b0 σ H) (hl : hL b0 ls 4 [some (.inr (.inr l0)), none, none, none]) (h : X_X8_keep_90 G Qx l0 k0 k1 k2 σ) : W p l e rm_X8_keep s m args below meth c H locs 0 0 (MQ below (va_Qv Qx (fun u t => Pw G D tc b0 u t) (AA b0)) args s 0 0 (AA b0)) (F0 m 90 ls [.int k2, .int k1, rv b0 k0]) := by
  have hx := C.1
  have hb := C.2.1
  unfold X_X8_keep_90 at h
  have t1 := h.1
  replace h := h.2
  have v2 := h.1
  replace h := h.2
  refine x_iast C hW hS t1 v2 dX8_keep_90 (fun H locs hW hS => ?_)
  obtain ⟨s3, e_s3⟩ : ∃ z : Mem, z = (sI σ k0 k1.toNatClampNeg k2) := ⟨_, rfl⟩
  replace h := h s3 e_s3
  replace hW : Wd G D tc b0 s3 H := by rw [e_s3]; exact hW
  exact t_X8_keep_91 C hr hS hW (hl.keep [true, false, false, false] rfl) h
set_option maxRecDepth 20000 in
set_option maxHeartbeats 4000000 in
theorem t_X8_keep_0 {p : Program} {l : Launch} {e : Env} {s : State} {m : MethodId} {args : Array Value} {below : List Frame} {meth : Method} {c : Code} {H : Heap} {locs : List Loc} {D : va_G} {tc : Nat → ClassId} {b0 : Nat} {ls : Array Slot} {G : Lay} {Qx : Mem → Prop} {l0 : Nat} {l1 : Nat} {l2 : Int32} {l3 : Int32}  {σ : Mem} (C : Cx p s m args meth c cX8_keep RX8 4 D tc b0) (hr : meth.sig.returnType = (none : Option FieldType)) (hS : va_S (AA b0) s.heap H locs) (hW : Wd G D tc b0 σ H) (hl : hL b0 ls 4 [some (.inr (.inr l0)), some (.inr (.inr l1)), some (.inl l2), some (.inl l3)]) (h : X_X8_keep_0 G Qx l0 l1 l2 l3  σ) : W p l e rm_X8_keep s m args below meth c H locs 0 0 (MQ below (va_Qv Qx (fun u t => Pw G D tc b0 u t) (AA b0)) args s 0 0 (AA b0)) (F0 m 0 ls []) := by
  have hx := C.1
  have hb := C.2.1
  unfold X_X8_keep_0 at h
  refine x_aload_n C hl dX8_keep_0 rfl ?_
  have t1 := h.1
  replace h := h.2
  refine x_get C hW (t := 8) (k := 1) t1 kl_8 (by decide) fl_X8_15 (v := rv b0 (mR σ l0 1)) rfl dX8_keep_1 ?_
  refine x_aload_n C hl dX8_keep_4 rfl ?_
  refine x_get C hW (t := 8) (k := 3) t1 kl_8 (by decide) fl_X8_32 (v := .int (mI σ l0 3)) rfl dX8_keep_5 ?_
  refine x_iload_n C hl dX8_keep_8 rfl ?_
  have t2 := h.1
  replace h := h.2
  have v3 := h.1
  replace h := h.2
  refine x_iast C hW hS t2 v3 dX8_keep_9 (fun H locs hW hS => ?_)
  obtain ⟨s4, e_s4⟩ : ∃ z : Mem, z = (sI σ (mR σ l0 1) (mI σ l0 3).toNatClampNeg l2) := ⟨_, rfl⟩
  replace h := h s4 e_s4
  replace hW : Wd G D tc b0 s4 H := by rw [e_s4]; exact hW
  refine x_aload_n C hl dX8_keep_10 rfl ?_
  refine x_iload_n C hl dX8_keep_11 rfl ?_
  have t5 := h.1
  replace h := h.2
  have v6 := h.1
  replace h := h.2
  refine x_bald C hW t5 v6 dX8_keep_12 ?_
  refine y_i (x_runS (As := [.int (mI s4 l1 l2.toNatClampNeg)]) C hW hS (T_X8_isLetter l (mI s4 l1 l2.toNatClampNeg) s4 _ h) (CS.of yv_X8_isLetter ml_X8_47) ⟨rfl, rfl, ⟨by decide, by decide⟩, by decide, by decide⟩ rfl hl.1 rfl (by decide) dX8_keep_13) hS (fun w8 s7 H locs h hW hS => ?_)
  refine lv_if_eq hx hb dX8_keep_16 (tgt := 29) rfl (fun hc => ?_) (fun hc => ?_)
  · replace h := h.1 hc
    refine x_aload_n C hl dX8_keep_29 rfl ?_
    refine x_iload_n C hl dX8_keep_30 rfl ?_
    refine x_bald C hW t5 v6 dX8_keep_31 ?_
    refine y_i (x_runS (As := [.int (mI s7 l1 l2.toNatClampNeg)]) C hW hS (T_X8_isDigit l (mI s7 l1 l2.toNatClampNeg) s7 _ h) (CS.of yv_X8_isDigit ml_X8_53) ⟨rfl, rfl, ⟨by decide, by decide⟩, by decide, by decide⟩ rfl hl.1 rfl (by decide) dX8_keep_32) hS (fun w10 s9 H locs h hW hS => ?_)
    refine lv_if_eq hx hb dX8_keep_35 (tgt := 48) rfl (fun hc => ?_) (fun hc => ?_)
    · replace h := h.1 hc
      refine x_aload_n C hl dX8_keep_48 rfl ?_
      refine x_get C hW (t := 8) (k := 2) t1 kl_8 (by decide) fl_X8_18 (v := rv b0 (mR s9 l0 2)) rfl dX8_keep_49 ?_
      refine x_aload_n C hl dX8_keep_52 rfl ?_
      refine x_get C hW (t := 8) (k := 3) t1 kl_8 (by decide) fl_X8_32 (v := .int (mI s9 l0 3)) rfl dX8_keep_53 ?_
      refine x_aload_n C hl dX8_keep_56 rfl ?_
      refine x_iload_n C hl dX8_keep_57 rfl ?_
      refine x_bald C hW t5 v6 dX8_keep_58 ?_
      refine lv_i2l hx hb dX8_keep_59 rfl ?_
      have t11 := h.1
      replace h := h.2
      have v12 := h.1
      replace h := h.2
      refine x_last C hW hS t11 v12 dX8_keep_60 (fun H locs hW hS => ?_)
      obtain ⟨s13, e_s13⟩ : ∃ z : Mem, z = (sJ s9 (mR s9 l0 2) (mI s9 l0 3).toNatClampNeg ((mI s9 l1 l2.toNatClampNeg).toInt64)) := ⟨_, rfl⟩
      replace h := h s13 e_s13
      replace hW : Wd G D tc b0 s13 H := by rw [e_s13]; exact hW
      refine x_aload_n C hl dX8_keep_61 rfl ?_
      refine x_get C hW (t := 8) (k := 0) t1 kl_8 (by decide) fl_X8_9 (v := rv b0 (mR s13 l0 0)) rfl dX8_keep_62 ?_
      refine x_aload_n C hl dX8_keep_65 rfl ?_
      refine x_get C hW (t := 8) (k := 3) t1 kl_8 (by decide) fl_X8_32 (v := .int (mI s13 l0 3)) rfl dX8_keep_66 ?_
      obtain ⟨tK, adK, adV, hZ1, hT1, hV1, hR1, hZ2⟩ := C.2.2.2.2.2.2.2
      refine va_ldcS hx hb C.2.2.2.1 hR1 dX8_keep_69 ?_
      refine x_aload_n C hl dX8_keep_71 rfl ?_
      refine x_iload_n C hl dX8_keep_72 rfl ?_
      refine x_bald C hW t5 v6 dX8_keep_73 ?_
      refine lv_sipush (v := (255 : Int32)) hx hb dX8_keep_74 (by decide) ?_
      refine lv_iand hx hb dX8_keep_77 ?_
      refine lv_i2c hx hb dX8_keep_78 rfl ?_
      have hcc := h.1
      replace h := h.2
      refine x_sgix C hW hS hl.1 hV1 hZ2 hcc ⟨by decide, by decide, by decide, by decide⟩ (by simp [rv_cat, cat_i, cat_l]) dX8_keep_79 (fun H locs hW hS => ?_)
      refine lv_if_lt hx hb dX8_keep_82 (tgt := 89) rfl (fun hc => ?_) (fun hc => ?_)
      · replace h := h.1 hc
        refine lv_iconst (v := (1 : Int32)) hx hb dX8_keep_89 (by decide) ?_
        exact t_X8_keep_90 C hr hS hW (hl.keep [true, false, false, false] rfl) h
      · replace h := h.2 hc
        refine lv_iconst (v := (5 : Int32)) hx hb dX8_keep_85 (by decide) ?_
        refine lv_goto hx hb dX8_keep_86 (tgt := 90) rfl ?_
        exact t_X8_keep_90 C hr hS hW (hl.keep [true, false, false, false] rfl) h
    · replace h := h.2 hc
      refine x_aload_n C hl dX8_keep_38 rfl ?_
      refine x_aload_n C hl dX8_keep_39 rfl ?_
      refine x_iload_n C hl dX8_keep_40 rfl ?_
      refine x_iload_n C hl dX8_keep_41 rfl ?_
      refine y_v (x_run (As := [rv b0 l1, .int l2, .int l3]) C hW hS (T_X8_keepNumber l l0 l1 l2 l3 s9 _ h) t1 kl_8 (CW.of yv_X8_keepNumber ml_X8_56) ⟨rfl, rfl, ⟨by decide, by decide⟩, by decide, by decide⟩ rfl hl.1 rfl (by decide) dX8_keep_42) hS (fun s14 H locs h hW hS => ?_)
      refine lv_goto hx hb dX8_keep_45 (tgt := 91) rfl ?_
      exact t_X8_keep_91 C hr hS hW (hl.keep [true, false, false, false] rfl) h
  · replace h := h.2 hc
    refine x_aload_n C hl dX8_keep_19 rfl ?_
    refine x_aload_n C hl dX8_keep_20 rfl ?_
    refine x_iload_n C hl dX8_keep_21 rfl ?_
    refine x_iload_n C hl dX8_keep_22 rfl ?_
    refine y_v (x_run (As := [rv b0 l1, .int l2, .int l3]) C hW hS (T_X8_keepWord l l0 l1 l2 l3 s7 _ h) t1 kl_8 (CW.of yv_X8_keepWord ml_X8_50) ⟨rfl, rfl, ⟨by decide, by decide⟩, by decide, by decide⟩ rfl hl.1 rfl (by decide) dX8_keep_23) hS (fun s15 H locs h hW hS => ?_)
    refine lv_goto hx hb dX8_keep_26 (tgt := 91) rfl ?_
    exact t_X8_keep_91 C hr hS hW (hl.keep [true, false, false, false] rfl) h
theorem T_X8_keep (l : Launch) {G : Lay} {D : va_G} {tc : Nat → ClassId} {b0 : Nat} (l0 : Nat) (l1 : Nat) (l2 : Int32) (l3 : Int32) (σ : Mem) (Qx : Mem → Prop) (h : X_X8_keep G Qx l0 l1 l2 l3 σ) : MV l yX8_keep cX8_keep 4 ((none : Option FieldType)) rm_X8_keep G D tc b0 [rv b0 l0, rv b0 l1, .int l2, .int l3] σ Qx :=
  x_entry (y := yX8_keep) [.inr (.inr l0), .inr (.inr l1), .inl l2, .inl l3] 0 (by decide) (Nat.le_of_ble_eq_true rfl) (fun p e s m args below meth c ls C hr hW hl => t_X8_keep_0 C hr va_S.rf hW (hl.keep [true, true, true, true] rfl) h)
/-! X8_scan -/
set_option maxRecDepth 20000 in
set_option maxHeartbeats 4000000 in
theorem t_X8_scan_70 {p : Program} {l : Launch} {e : Env} {s : State} {m : MethodId} {args : Array Value} {below : List Frame} {meth : Method} {c : Code} {H : Heap} {locs : List Loc} {D : va_G} {tc : Nat → ClassId} {b0 : Nat} {ls : Array Slot} {G : Lay} {Qx : Mem → Prop} {l0 : Nat} {l1 : Nat} {l2 : Int32} {l3 : Int32} {l4 : Int32}  {K25 : Int32 × Int32 × Mem → Prop} {σ : Mem} (C : Cx p s m args meth c cX8_scan RX8 6 D tc b0) (hr : meth.sig.returnType = (none : Option FieldType)) (hK25 : ∀ (x3 : Int32) (x4 : Int32) (σ : Mem) (H : Heap) (locs : List Loc) (ls : Array Slot), va_S (AA b0) s.heap H locs → Wd G D tc b0 σ H → hL b0 ls 6 [some (.inr (.inr l0)), some (.inr (.inr l1)), some (.inl l2), some (.inl x3), some (.inl x4), none] → K25 (x3, x4, σ) → W p l e rm_X8_scan s m args below meth c H locs 0 0 (MQ below (va_Qv Qx (fun u t => Pw G D tc b0 u t) (AA b0)) args s 0 0 (AA b0)) (F0 m 25 ls [])) (hS : va_S (AA b0) s.heap H locs) (hW : Wd G D tc b0 σ H) (hl : hL b0 ls 6 [some (.inr (.inr l0)), some (.inr (.inr l1)), some (.inl l2), some (.inl l3), some (.inl l4), none]) (h : X_X8_scan_70 G Qx K25 l0 l1 l2 l3 l4  σ) : W p l e rm_X8_scan s m args below meth c H locs 0 0 (MQ below (va_Qv Qx (fun u t => Pw G D tc b0 u t) (AA b0)) args s 0 0 (AA b0)) (F0 m 70 ls []) := by
  have hx := C.1
  have hb := C.2.1
  unfold X_X8_scan_70 at h
  refine x_iinc C hl dX8_scan_70 rfl (v := (1 : Int32)) (by decide) (by decide) rfl (fun ls hl => ?_)
  refine lv_goto hx hb dX8_scan_73 (tgt := 25) rfl ?_
  exact hK25 _ _ _ _ _ _ hS hW (hl.keep [true, true, true, true, true, false] rfl) h
set_option maxRecDepth 20000 in
set_option maxHeartbeats 4000000 in
theorem t_X8_scan_76 {p : Program} {l : Launch} {e : Env} {s : State} {m : MethodId} {args : Array Value} {below : List Frame} {meth : Method} {c : Code} {H : Heap} {locs : List Loc} {D : va_G} {tc : Nat → ClassId} {b0 : Nat} {ls : Array Slot} {G : Lay} {Qx : Mem → Prop} {l0 : Nat} {l2 : Int32}  {σ : Mem} (C : Cx p s m args meth c cX8_scan RX8 6 D tc b0) (hr : meth.sig.returnType = (none : Option FieldType)) (hS : va_S (AA b0) s.heap H locs) (hW : Wd G D tc b0 σ H) (hl : hL b0 ls 6 [some (.inr (.inr l0)), none, some (.inl l2), none, none, none]) (h : X_X8_scan_76 G Qx l0 l2  σ) : W p l e rm_X8_scan s m args below meth c H locs 0 0 (MQ below (va_Qv Qx (fun u t => Pw G D tc b0 u t) (AA b0)) args s 0 0 (AA b0)) (F0 m 76 ls []) := by
  have hx := C.1
  have hb := C.2.1
  unfold X_X8_scan_76 at h
  refine x_aload_n C hl dX8_scan_76 rfl ?_
  have t1 := h.1
  replace h := h.2
  refine x_get C hW (t := 8) (k := 0) t1 kl_8 (by decide) fl_X8_9 (v := rv b0 (mR σ l0 0)) rfl dX8_scan_77 ?_
  refine x_aload_n C hl dX8_scan_80 rfl ?_
  refine x_get C hW (t := 8) (k := 3) t1 kl_8 (by decide) fl_X8_32 (v := .int (mI σ l0 3)) rfl dX8_scan_81 ?_
  refine lv_iconst (v := (0 : Int32)) hx hb dX8_scan_84 (by decide) ?_
  have t2 := h.1
  replace h := h.2
  have v3 := h.1
  replace h := h.2
  refine x_iast C hW hS t2 v3 dX8_scan_85 (fun H locs hW hS => ?_)
  obtain ⟨s4, e_s4⟩ : ∃ z : Mem, z = (sI σ (mR σ l0 0) (mI σ l0 3).toNatClampNeg (0 : Int32)) := ⟨_, rfl⟩
  replace h := h s4 e_s4
  replace hW : Wd G D tc b0 s4 H := by rw [e_s4]; exact hW
  refine x_aload_n C hl dX8_scan_86 rfl ?_
  refine x_get C hW (t := 8) (k := 1) t1 kl_8 (by decide) fl_X8_15 (v := rv b0 (mR s4 l0 1)) rfl dX8_scan_87 ?_
  refine x_aload_n C hl dX8_scan_90 rfl ?_
  refine x_get C hW (t := 8) (k := 3) t1 kl_8 (by decide) fl_X8_32 (v := .int (mI s4 l0 3)) rfl dX8_scan_91 ?_
  refine x_iload_n C hl dX8_scan_94 rfl ?_
  have t5 := h.1
  replace h := h.2
  have v6 := h.1
  replace h := h.2
  refine x_iast C hW hS t5 v6 dX8_scan_95 (fun H locs hW hS => ?_)
  obtain ⟨s7, e_s7⟩ : ∃ z : Mem, z = (sI s4 (mR s4 l0 1) (mI s4 l0 3).toNatClampNeg l2) := ⟨_, rfl⟩
  replace h := h s7 e_s7
  replace hW : Wd G D tc b0 s7 H := by rw [e_s7]; exact hW
  exact r_v C hr hW hS h dX8_scan_96
set_option maxRecDepth 20000 in
set_option maxHeartbeats 4000000 in
theorem t_X8_scan_25_n {p : Program} {l : Launch} {e : Env} {s : State} {m : MethodId} {args : Array Value} {below : List Frame} {meth : Method} {c : Code} {D : va_G} {tc : Nat → ClassId} {b0 : Nat} {G : Lay} {Qx : Mem → Prop} {l0 : Nat} {l1 : Nat} {l2 : Int32} (C : Cx p s m args meth c cX8_scan RX8 6 D tc b0) (hr : meth.sig.returnType = (none : Option FieldType)) (n : Nat) : ∀ (l3 : Int32) (l4 : Int32) (σ : Mem) (H : Heap) (locs : List Loc) (ls : Array Slot), va_S (AA b0) s.heap H locs → Wd G D tc b0 σ H → hL b0 ls 6 [some (.inr (.inr l0)), some (.inr (.inr l1)), some (.inl l2), some (.inl l3), some (.inl l4), none] → Lp (X_X8_scan_25_s G Qx l0 l1 l2) n (l3, l4, σ) → W p l e rm_X8_scan s m args below meth c H locs 0 0 (MQ below (va_Qv Qx (fun u t => Pw G D tc b0 u t) (AA b0)) args s 0 0 (AA b0)) (F0 m 25 ls []) := by
  have hx := C.1
  have hb := C.2.1
  induction n with
  | zero => intro l3 l4 σ H locs ls hS hW hl h; exact False.elim h
  | succ n hK25 =>
    intro l3 l4 σ H locs ls hS hW hl h
    replace h : X_X8_scan_25_s G Qx l0 l1 l2 (Lp (X_X8_scan_25_s G Qx l0 l1 l2) n) (l3, l4, σ) := h
    unfold X_X8_scan_25_s at h
    refine x_iload C hl dX8_scan_25 rfl ?_
    refine x_iload_n C hl dX8_scan_27 rfl ?_
    refine lv_icmp_ge hx hb dX8_scan_28 (tgt := 76) rfl (fun hc => ?_) (fun hc => ?_)
    · replace h := h.1 hc
      exact t_X8_scan_76 C hr hS hW (hl.keep [true, false, true, false, false, false] rfl) h
    · replace h := h.2 hc
      refine x_iload_n C hl dX8_scan_31 rfl ?_
      refine x_iload_n C hl dX8_scan_32 rfl ?_
      refine lv_icmp_ge hx hb dX8_scan_33 (tgt := 76) rfl (fun hc => ?_) (fun hc => ?_)
      · replace h := h.1 hc
        exact t_X8_scan_76 C hr hS hW (hl.keep [true, false, true, false, false, false] rfl) h
      · replace h := h.2 hc
        refine x_aload_n C hl dX8_scan_36 rfl ?_
        refine x_iload_n C hl dX8_scan_37 rfl ?_
        have t1 := h.1
        replace h := h.2
        have v2 := h.1
        replace h := h.2
        refine x_bald C hW t1 v2 dX8_scan_38 ?_
        refine y_i (x_runS (As := [.int (mI σ l1 l3.toNatClampNeg)]) C hW hS (T_X8_isBlank l (mI σ l1 l3.toNatClampNeg) σ _ h) (CS.of yv_X8_isBlank ml_X8_35) ⟨rfl, rfl, ⟨by decide, by decide⟩, by decide, by decide⟩ rfl hl.1 rfl (by decide) dX8_scan_39) hS (fun w4 s3 H locs h hW hS => ?_)
        refine lv_if_eq hx hb dX8_scan_42 (tgt := 51) rfl (fun hc => ?_) (fun hc => ?_)
        · replace h := h.1 hc
          refine x_aload_n C hl dX8_scan_51 rfl ?_
          refine x_iload_n C hl dX8_scan_52 rfl ?_
          refine x_iload_n C hl dX8_scan_53 rfl ?_
          refine y_i (x_runS (As := [rv b0 l1, .int l3, .int l2]) C hW hS (T_X8_endOfToken l l1 l3 l2 s3 _ h) (CS.of yv_X8_endOfToken ml_X8_39) ⟨rfl, rfl, ⟨by decide, by decide⟩, by decide, by decide⟩ rfl hl.1 rfl (by decide) dX8_scan_54) hS (fun w6 s5 H locs h hW hS => ?_)
          refine x_istore C hl dX8_scan_57 (by decide) rfl (fun ls hl => ?_)
          refine x_aload_n C hl dX8_scan_59 rfl ?_
          refine x_aload_n C hl dX8_scan_60 rfl ?_
          refine x_iload_n C hl dX8_scan_61 rfl ?_
          refine x_iload C hl dX8_scan_62 rfl ?_
          have t7 := h.1
          replace h := h.2
          refine y_v (x_run (As := [rv b0 l1, .int l3, .int w6]) C hW hS (T_X8_keep l l0 l1 l3 w6 s5 _ h) t7 kl_8 (CW.of yv_X8_keep ml_X8_43) ⟨rfl, rfl, ⟨by decide, by decide⟩, by decide, by decide⟩ rfl hl.1 rfl (by decide) dX8_scan_64) hS (fun s8 H locs h hW hS => ?_)
          refine x_iload C hl dX8_scan_67 rfl ?_
          refine x_istore_n C hl dX8_scan_69 (by decide) rfl (fun ls hl => ?_)
          exact t_X8_scan_70 C hr hK25 hS hW (hl.keep [true, true, true, true, true, false] rfl) h
        · replace h := h.2 hc
          refine x_iinc C hl dX8_scan_45 rfl (v := (1 : Int32)) (by decide) (by decide) rfl (fun ls hl => ?_)
          refine lv_goto hx hb dX8_scan_48 (tgt := 70) rfl ?_
          exact t_X8_scan_70 C hr hK25 hS hW (hl.keep [true, true, true, true, true, false] rfl) h
set_option maxRecDepth 20000 in
set_option maxHeartbeats 4000000 in
theorem t_X8_scan_25 {p : Program} {l : Launch} {e : Env} {s : State} {m : MethodId} {args : Array Value} {below : List Frame} {meth : Method} {c : Code} {H : Heap} {locs : List Loc} {D : va_G} {tc : Nat → ClassId} {b0 : Nat} {ls : Array Slot} {G : Lay} {Qx : Mem → Prop} {l0 : Nat} {l1 : Nat} {l2 : Int32} {l3 : Int32} {l4 : Int32}  {σ : Mem} (C : Cx p s m args meth c cX8_scan RX8 6 D tc b0) (hr : meth.sig.returnType = (none : Option FieldType)) (hS : va_S (AA b0) s.heap H locs) (hW : Wd G D tc b0 σ H) (hl : hL b0 ls 6 [some (.inr (.inr l0)), some (.inr (.inr l1)), some (.inl l2), some (.inl l3), some (.inl l4), none]) (h : X_X8_scan_25 G Qx l0 l1 l2 l3 l4 σ) : W p l e rm_X8_scan s m args below meth c H locs 0 0 (MQ below (va_Qv Qx (fun u t => Pw G D tc b0 u t) (AA b0)) args s 0 0 (AA b0)) (F0 m 25 ls []) := by
  obtain ⟨n, h⟩ := h
  exact t_X8_scan_25_n C hr n l3 l4 σ H locs ls hS hW hl h
set_option maxRecDepth 20000 in
set_option maxHeartbeats 4000000 in
theorem t_X8_scan_0 {p : Program} {l : Launch} {e : Env} {s : State} {m : MethodId} {args : Array Value} {below : List Frame} {meth : Method} {c : Code} {H : Heap} {locs : List Loc} {D : va_G} {tc : Nat → ClassId} {b0 : Nat} {ls : Array Slot} {G : Lay} {Qx : Mem → Prop} {l0 : Nat} {l1 : Nat} {l2 : Int32}  {σ : Mem} (C : Cx p s m args meth c cX8_scan RX8 6 D tc b0) (hr : meth.sig.returnType = (none : Option FieldType)) (hS : va_S (AA b0) s.heap H locs) (hW : Wd G D tc b0 σ H) (hl : hL b0 ls 6 [some (.inr (.inr l0)), some (.inr (.inr l1)), some (.inl l2), none, none, none]) (h : X_X8_scan_0 G Qx l0 l1 l2  σ) : W p l e rm_X8_scan s m args below meth c H locs 0 0 (MQ below (va_Qv Qx (fun u t => Pw G D tc b0 u t) (AA b0)) args s 0 0 (AA b0)) (F0 m 0 ls []) := by
  have hx := C.1
  have hb := C.2.1
  unfold X_X8_scan_0 at h
  refine x_aload_n C hl dX8_scan_0 rfl ?_
  refine lv_iconst (v := (0 : Int32)) hx hb dX8_scan_1 (by decide) ?_
  have t1 := h.1
  replace h := h.2
  refine x_putI C hW hS (t := 8) (k := 5) t1 kl_8 (by decide) fl_X8_26 rfl rfl rfl rfl dX8_scan_2 (fun H locs hW hS => ?_)
  obtain ⟨s2, e_s2⟩ : ∃ z : Mem, z = (sI σ l0 5 (0 : Int32)) := ⟨_, rfl⟩
  replace h := h s2 e_s2
  replace hW : Wd G D tc b0 s2 H := by rw [e_s2]; exact hW
  refine x_aload_n C hl dX8_scan_5 rfl ?_
  refine lv_iconst (v := (-1 : Int32)) hx hb dX8_scan_6 (by decide) ?_
  refine x_putI C hW hS (t := 8) (k := 6) t1 kl_8 (by decide) fl_X8_22 rfl rfl rfl rfl dX8_scan_7 (fun H locs hW hS => ?_)
  obtain ⟨s3, e_s3⟩ : ∃ z : Mem, z = (sI s2 l0 6 (-1 : Int32)) := ⟨_, rfl⟩
  replace h := h s3 e_s3
  replace hW : Wd G D tc b0 s3 H := by rw [e_s3]; exact hW
  refine x_aload_n C hl dX8_scan_10 rfl ?_
  refine lv_iconst (v := (0 : Int32)) hx hb dX8_scan_11 (by decide) ?_
  refine x_putI C hW hS (t := 8) (k := 4) t1 kl_8 (by decide) fl_X8_29 rfl rfl rfl rfl dX8_scan_12 (fun H locs hW hS => ?_)
  obtain ⟨s4, e_s4⟩ : ∃ z : Mem, z = (sI s3 l0 4 (0 : Int32)) := ⟨_, rfl⟩
  replace h := h s4 e_s4
  replace hW : Wd G D tc b0 s4 H := by rw [e_s4]; exact hW
  refine x_aload_n C hl dX8_scan_15 rfl ?_
  refine lv_iconst (v := (0 : Int32)) hx hb dX8_scan_16 (by decide) ?_
  refine x_putI C hW hS (t := 8) (k := 3) t1 kl_8 (by decide) fl_X8_32 rfl rfl rfl rfl dX8_scan_17 (fun H locs hW hS => ?_)
  obtain ⟨s5, e_s5⟩ : ∃ z : Mem, z = (sI s4 l0 3 (0 : Int32)) := ⟨_, rfl⟩
  replace h := h s5 e_s5
  replace hW : Wd G D tc b0 s5 H := by rw [e_s5]; exact hW
  refine lv_iconst (v := (0 : Int32)) hx hb dX8_scan_20 (by decide) ?_
  refine x_istore_n C hl dX8_scan_21 (by decide) rfl (fun ls hl => ?_)
  refine lv_iconst (v := (0 : Int32)) hx hb dX8_scan_22 (by decide) ?_
  refine x_istore C hl dX8_scan_23 (by decide) rfl (fun ls hl => ?_)
  exact t_X8_scan_25 C hr hS hW (hl.keep [true, true, true, true, true, false] rfl) h
theorem T_X8_scan (l : Launch) {G : Lay} {D : va_G} {tc : Nat → ClassId} {b0 : Nat} (l0 : Nat) (l1 : Nat) (l2 : Int32) (σ : Mem) (Qx : Mem → Prop) (h : X_X8_scan G Qx l0 l1 l2 σ) : MV l yX8_scan cX8_scan 6 ((none : Option FieldType)) rm_X8_scan G D tc b0 [rv b0 l0, rv b0 l1, .int l2] σ Qx :=
  x_entry (y := yX8_scan) [.inr (.inr l0), .inr (.inr l1), .inl l2] 3 (by decide) (Nat.le_of_ble_eq_true rfl) (fun p e s m args below meth c ls C hr hW hl => t_X8_scan_0 C hr va_S.rf hW (hl.keep [true, true, true, false, false, false] rfl) h)
/-! J6_bitCount_0f7a4 -/
set_option maxRecDepth 20000 in
set_option maxHeartbeats 4000000 in
theorem t_J6_bitCount_0f7a4_0 {p : Program} {l : Launch} {e : Env} {s : State} {m : MethodId} {args : Array Value} {below : List Frame} {meth : Method} {c : Code} {H : Heap} {locs : List Loc} {D : va_G} {tc : Nat → ClassId} {b0 : Nat} {ls : Array Slot} {G : Lay} {Qx : Int32 → Mem → Prop} {l0 : Int32}  {σ : Mem} (C : Cx p s m args meth c cJ6_bitCount_0f7a4 RJ6 1 D tc b0) (hr : meth.sig.returnType = (some FieldType.int)) (hS : va_S (AA b0) s.heap H locs) (hW : Wd G D tc b0 σ H) (hl : hL b0 ls 1 [some (.inl l0)]) (h : X_J6_bitCount_0f7a4_0 G Qx l0  σ) : W p l e rm_J6_bitCount_0f7a4 s m args below meth c H locs 0 0 (MQ below (va_Qi Qx (fun u t => Pw G D tc b0 u t) (AA b0)) args s 0 0 (AA b0)) (F0 m 0 ls []) := by
  have hx := C.1
  have hb := C.2.1
  unfold X_J6_bitCount_0f7a4_0 at h
  refine x_iload_n C hl dJ6_bitCount_0f7a4_0 rfl ?_
  refine x_iload_n C hl dJ6_bitCount_0f7a4_1 rfl ?_
  refine lv_iconst (v := (1 : Int32)) hx hb dJ6_bitCount_0f7a4_2 (by decide) ?_
  refine lv_iushr (v := ushr32 l0 (1 : Int32)) hx hb dJ6_bitCount_0f7a4_3 rfl ?_
  refine lv_ldcw (own := RJ6) (v := (1431655765 : Int32)) hx hb C.2.2.2.1 (C.2.2.2.2.1 _ (gc5 94 rfl rfl)) dJ6_bitCount_0f7a4_4 ?_
  refine lv_iand hx hb dJ6_bitCount_0f7a4_7 ?_
  refine lv_isub hx hb dJ6_bitCount_0f7a4_8 ?_
  refine x_istore_n C hl dJ6_bitCount_0f7a4_9 (by decide) rfl (fun ls hl => ?_)
  refine x_iload_n C hl dJ6_bitCount_0f7a4_10 rfl ?_
  refine lv_ldcw (own := RJ6) (v := (858993459 : Int32)) hx hb C.2.2.2.1 (C.2.2.2.2.1 _ (gc5 95 rfl rfl)) dJ6_bitCount_0f7a4_11 ?_
  refine lv_iand hx hb dJ6_bitCount_0f7a4_14 ?_
  refine x_iload_n C hl dJ6_bitCount_0f7a4_15 rfl ?_
  refine lv_iconst (v := (2 : Int32)) hx hb dJ6_bitCount_0f7a4_16 (by decide) ?_
  refine lv_iushr (v := ushr32 (l0 - ((ushr32 l0 (1 : Int32)) &&& (1431655765 : Int32))) (2 : Int32)) hx hb dJ6_bitCount_0f7a4_17 rfl ?_
  refine lv_ldcw (own := RJ6) (v := (858993459 : Int32)) hx hb C.2.2.2.1 (C.2.2.2.2.1 _ (gc5 95 rfl rfl)) dJ6_bitCount_0f7a4_18 ?_
  refine lv_iand hx hb dJ6_bitCount_0f7a4_21 ?_
  refine lv_iadd hx hb dJ6_bitCount_0f7a4_22 ?_
  refine x_istore_n C hl dJ6_bitCount_0f7a4_23 (by decide) rfl (fun ls hl => ?_)
  refine x_iload_n C hl dJ6_bitCount_0f7a4_24 rfl ?_
  refine x_iload_n C hl dJ6_bitCount_0f7a4_25 rfl ?_
  refine lv_iconst (v := (4 : Int32)) hx hb dJ6_bitCount_0f7a4_26 (by decide) ?_
  refine lv_iushr (v := ushr32 (((l0 - ((ushr32 l0 (1 : Int32)) &&& (1431655765 : Int32))) &&& (858993459 : Int32)) + ((ushr32 (l0 - ((ushr32 l0 (1 : Int32)) &&& (1431655765 : Int32))) (2 : Int32)) &&& (858993459 : Int32))) (4 : Int32)) hx hb dJ6_bitCount_0f7a4_27 rfl ?_
  refine lv_iadd hx hb dJ6_bitCount_0f7a4_28 ?_
  refine lv_ldcw (own := RJ6) (v := (252645135 : Int32)) hx hb C.2.2.2.1 (C.2.2.2.2.1 _ (gc5 96 rfl rfl)) dJ6_bitCount_0f7a4_29 ?_
  refine lv_iand hx hb dJ6_bitCount_0f7a4_32 ?_
  refine x_istore_n C hl dJ6_bitCount_0f7a4_33 (by decide) rfl (fun ls hl => ?_)
  refine x_iload_n C hl dJ6_bitCount_0f7a4_34 rfl ?_
  refine x_iload_n C hl dJ6_bitCount_0f7a4_35 rfl ?_
  refine lv_bipush (v := (8 : Int32)) hx hb dJ6_bitCount_0f7a4_36 (by decide) ?_
  refine lv_iushr (v := ushr32 (((((l0 - ((ushr32 l0 (1 : Int32)) &&& (1431655765 : Int32))) &&& (858993459 : Int32)) + ((ushr32 (l0 - ((ushr32 l0 (1 : Int32)) &&& (1431655765 : Int32))) (2 : Int32)) &&& (858993459 : Int32))) + (ushr32 (((l0 - ((ushr32 l0 (1 : Int32)) &&& (1431655765 : Int32))) &&& (858993459 : Int32)) + ((ushr32 (l0 - ((ushr32 l0 (1 : Int32)) &&& (1431655765 : Int32))) (2 : Int32)) &&& (858993459 : Int32))) (4 : Int32))) &&& (252645135 : Int32)) (8 : Int32)) hx hb dJ6_bitCount_0f7a4_38 rfl ?_
  refine lv_iadd hx hb dJ6_bitCount_0f7a4_39 ?_
  refine x_istore_n C hl dJ6_bitCount_0f7a4_40 (by decide) rfl (fun ls hl => ?_)
  refine x_iload_n C hl dJ6_bitCount_0f7a4_41 rfl ?_
  refine x_iload_n C hl dJ6_bitCount_0f7a4_42 rfl ?_
  refine lv_bipush (v := (16 : Int32)) hx hb dJ6_bitCount_0f7a4_43 (by decide) ?_
  refine lv_iushr (v := ushr32 ((((((l0 - ((ushr32 l0 (1 : Int32)) &&& (1431655765 : Int32))) &&& (858993459 : Int32)) + ((ushr32 (l0 - ((ushr32 l0 (1 : Int32)) &&& (1431655765 : Int32))) (2 : Int32)) &&& (858993459 : Int32))) + (ushr32 (((l0 - ((ushr32 l0 (1 : Int32)) &&& (1431655765 : Int32))) &&& (858993459 : Int32)) + ((ushr32 (l0 - ((ushr32 l0 (1 : Int32)) &&& (1431655765 : Int32))) (2 : Int32)) &&& (858993459 : Int32))) (4 : Int32))) &&& (252645135 : Int32)) + (ushr32 (((((l0 - ((ushr32 l0 (1 : Int32)) &&& (1431655765 : Int32))) &&& (858993459 : Int32)) + ((ushr32 (l0 - ((ushr32 l0 (1 : Int32)) &&& (1431655765 : Int32))) (2 : Int32)) &&& (858993459 : Int32))) + (ushr32 (((l0 - ((ushr32 l0 (1 : Int32)) &&& (1431655765 : Int32))) &&& (858993459 : Int32)) + ((ushr32 (l0 - ((ushr32 l0 (1 : Int32)) &&& (1431655765 : Int32))) (2 : Int32)) &&& (858993459 : Int32))) (4 : Int32))) &&& (252645135 : Int32)) (8 : Int32))) (16 : Int32)) hx hb dJ6_bitCount_0f7a4_45 rfl ?_
  refine lv_iadd hx hb dJ6_bitCount_0f7a4_46 ?_
  refine x_istore_n C hl dJ6_bitCount_0f7a4_47 (by decide) rfl (fun ls hl => ?_)
  refine x_iload_n C hl dJ6_bitCount_0f7a4_48 rfl ?_
  refine lv_bipush (v := (63 : Int32)) hx hb dJ6_bitCount_0f7a4_49 (by decide) ?_
  refine lv_iand hx hb dJ6_bitCount_0f7a4_51 ?_
  exact r_i C hr hW hS h dJ6_bitCount_0f7a4_52
theorem T_J6_bitCount_0f7a4 (l : Launch) {G : Lay} {D : va_G} {tc : Nat → ClassId} {b0 : Nat} (l0 : Int32) (σ : Mem) (Qx : Int32 → Mem → Prop) (h : X_J6_bitCount_0f7a4 G Qx l0 σ) : MI l yJ6_bitCount_0f7a4 cJ6_bitCount_0f7a4 1 ((some FieldType.int)) rm_J6_bitCount_0f7a4 G D tc b0 [.int l0] σ Qx :=
  x_entry (y := yJ6_bitCount_0f7a4) [.inl l0] 0 (by decide) (Nat.le_of_ble_eq_true rfl) (fun p e s m args below meth c ls C hr hW hl => t_J6_bitCount_0f7a4_0 C hr va_S.rf hW (hl.keep [true] rfl) h)
/-! X10_change -/
set_option maxRecDepth 20000 in
set_option maxHeartbeats 4000000 in
theorem t_X10_change_45 {p : Program} {l : Launch} {e : Env} {s : State} {m : MethodId} {args : Array Value} {below : List Frame} {meth : Method} {c : Code} {H : Heap} {locs : List Loc} {D : va_G} {tc : Nat → ClassId} {b0 : Nat} {ls : Array Slot} {G : Lay} {Qx : Int32 → Mem → Prop} {l0 : Nat} {l1 : Nat}  {σ : Mem} (C : Cx p s m args meth c cX10_change RX10 5 D tc b0) (hr : meth.sig.returnType = (some FieldType.boolean)) (hS : va_S (AA b0) s.heap H locs) (hW : Wd G D tc b0 σ H) (hl : hL b0 ls 5 [some (.inr (.inr l0)), some (.inr (.inr l1)), none, none, none]) (h : X_X10_change_45 G Qx l0 l1  σ) : W p l e rm_X10_change s m args below meth c H locs 0 0 (MQ below (va_Qi Qx (fun u t => Pw G D tc b0 u t) (AA b0)) args s 0 0 (AA b0)) (F0 m 45 ls []) := by
  have hx := C.1
  have hb := C.2.1
  unfold X_X10_change_45 at h
  refine x_aload_n C hl dX10_change_45 rfl ?_
  refine lv_iconst (v := (2 : Int32)) hx hb dX10_change_46 (by decide) ?_
  refine x_aload_n C hl dX10_change_47 rfl ?_
  refine lv_iconst (v := (-1 : Int32)) hx hb dX10_change_48 (by decide) ?_
  refine lv_iconst (v := (-1 : Int32)) hx hb dX10_change_49 (by decide) ?_
  have t1 := h.1
  replace h := h.2
  refine y_i (x_run (As := [.int (2 : Int32), rv b0 l1, .int (-1 : Int32), .int (-1 : Int32)]) C hW hS (T_X10_breakOff l l0 (2 : Int32) l1 (-1 : Int32) (-1 : Int32) σ _ h) t1 kl_10 (CW.of yv_X10_breakOff ml_X10_146) ⟨rfl, rfl, ⟨by decide, by decide⟩, by decide, by decide⟩ rfl hl.1 rfl (by decide) dX10_change_50) hS (fun w3 s2 H locs h hW hS => ?_)
  exact r_z C hr hW hS h.1 h.2 dX10_change_53
set_option maxRecDepth 20000 in
set_option maxHeartbeats 4000000 in
theorem t_X10_change_101 {p : Program} {l : Launch} {e : Env} {s : State} {m : MethodId} {args : Array Value} {below : List Frame} {meth : Method} {c : Code} {H : Heap} {locs : List Loc} {D : va_G} {tc : Nat → ClassId} {b0 : Nat} {ls : Array Slot} {G : Lay} {Qx : Int32 → Mem → Prop} {l0 : Nat} {l1 : Nat} {l2 : Int32} {l3 : Int32} {l4 : Int32}  {K68 : Int32 × Mem → Prop} {σ : Mem} (C : Cx p s m args meth c cX10_change RX10 5 D tc b0) (hr : meth.sig.returnType = (some FieldType.boolean)) (hK68 : ∀ (x4 : Int32) (σ : Mem) (H : Heap) (locs : List Loc) (ls : Array Slot), va_S (AA b0) s.heap H locs → Wd G D tc b0 σ H → hL b0 ls 5 [some (.inr (.inr l0)), some (.inr (.inr l1)), some (.inl l2), some (.inl l3), some (.inl x4)] → K68 (x4, σ) → W p l e rm_X10_change s m args below meth c H locs 0 0 (MQ below (va_Qi Qx (fun u t => Pw G D tc b0 u t) (AA b0)) args s 0 0 (AA b0)) (F0 m 68 ls [])) (hS : va_S (AA b0) s.heap H locs) (hW : Wd G D tc b0 σ H) (hl : hL b0 ls 5 [some (.inr (.inr l0)), some (.inr (.inr l1)), some (.inl l2), some (.inl l3), some (.inl l4)]) (h : X_X10_change_101 G Qx K68 l0 l1 l2 l3 l4  σ) : W p l e rm_X10_change s m args below meth c H locs 0 0 (MQ below (va_Qi Qx (fun u t => Pw G D tc b0 u t) (AA b0)) args s 0 0 (AA b0)) (F0 m 101 ls []) := by
  have hx := C.1
  have hb := C.2.1
  unfold X_X10_change_101 at h
  refine x_iinc C hl dX10_change_101 rfl (v := (1 : Int32)) (by decide) (by decide) rfl (fun ls hl => ?_)
  refine lv_goto hx hb dX10_change_104 (tgt := 68) rfl ?_
  exact hK68 _ _ _ _ _ hS hW (hl.keep [true, true, true, true, true] rfl) h
set_option maxRecDepth 20000 in
set_option maxHeartbeats 4000000 in
theorem t_X10_change_68_n {p : Program} {l : Launch} {e : Env} {s : State} {m : MethodId} {args : Array Value} {below : List Frame} {meth : Method} {c : Code} {D : va_G} {tc : Nat → ClassId} {b0 : Nat} {G : Lay} {Qx : Int32 → Mem → Prop} {l0 : Nat} {l1 : Nat} {l2 : Int32} {l3 : Int32} (C : Cx p s m args meth c cX10_change RX10 5 D tc b0) (hr : meth.sig.returnType = (some FieldType.boolean)) (n : Nat) : ∀ (l4 : Int32) (σ : Mem) (H : Heap) (locs : List Loc) (ls : Array Slot), va_S (AA b0) s.heap H locs → Wd G D tc b0 σ H → hL b0 ls 5 [some (.inr (.inr l0)), some (.inr (.inr l1)), some (.inl l2), some (.inl l3), some (.inl l4)] → Lp (X_X10_change_68_s G Qx l0 l1 l2 l3) n (l4, σ) → W p l e rm_X10_change s m args below meth c H locs 0 0 (MQ below (va_Qi Qx (fun u t => Pw G D tc b0 u t) (AA b0)) args s 0 0 (AA b0)) (F0 m 68 ls []) := by
  have hx := C.1
  have hb := C.2.1
  induction n with
  | zero => intro l4 σ H locs ls hS hW hl h; exact False.elim h
  | succ n hK68 =>
    intro l4 σ H locs ls hS hW hl h
    replace h : X_X10_change_68_s G Qx l0 l1 l2 l3 (Lp (X_X10_change_68_s G Qx l0 l1 l2 l3) n) (l4, σ) := h
    unfold X_X10_change_68_s at h
    refine x_iload C hl dX10_change_68 rfl ?_
    refine lv_bipush (v := (16 : Int32)) hx hb dX10_change_70 (by decide) ?_
    refine lv_icmp_ge hx hb dX10_change_72 (tgt := 107) rfl (fun hc => ?_) (fun hc => ?_)
    · replace h := h.1 hc
      refine x_aload_n C hl dX10_change_107 rfl ?_
      have t1 := h.1
      replace h := h.2
      refine x_get C hW (t := 10) (k := 0) t1 kl_10 (by decide) fl_X10_43 (v := rv b0 (mR σ l0 0)) rfl dX10_change_108 ?_
      have t2 := h.1
      replace h := h.2
      refine x_get C hW (t := 5) (k := 4) t2 kl_5 (by decide) fl_X10_233 (v := rv b0 (mR σ (mR σ l0 0) 4)) rfl dX10_change_111 ?_
      refine x_iload_n C hl dX10_change_114 rfl ?_
      refine lv_dup2_11 hx hb dX10_change_115 rfl (rv_cat _ _) ?_
      have t3 := h.1
      replace h := h.2
      have v4 := h.1
      replace h := h.2
      refine x_iald C hW t3 v4 dX10_change_116 ?_
      refine lv_iconst (v := (1 : Int32)) hx hb dX10_change_117 (by decide) ?_
      refine lv_iadd hx hb dX10_change_118 ?_
      refine x_iast C hW hS t3 v4 dX10_change_119 (fun H locs hW hS => ?_)
      obtain ⟨s5, e_s5⟩ : ∃ z : Mem, z = (sI σ (mR σ (mR σ l0 0) 4) l3.toNatClampNeg ((mI σ (mR σ (mR σ l0 0) 4) l3.toNatClampNeg) + (1 : Int32))) := ⟨_, rfl⟩
      replace h := h s5 e_s5
      replace hW : Wd G D tc b0 s5 H := by rw [e_s5]; exact hW
      refine x_aload_n C hl dX10_change_120 rfl ?_
      refine lv_iconst (v := (1 : Int32)) hx hb dX10_change_121 (by decide) ?_
      have t6 := h.1
      replace h := h.2
      have b8 := h.1
      replace h := h.2
      refine x_putI C hW hS (t := 7) (k := 9) t6 kl_7 (by decide) fl_X10_109 rfl rfl (bz_n b8) (bz_f b8) dX10_change_122 (fun H locs hW hS => ?_)
      obtain ⟨s7, e_s7⟩ : ∃ z : Mem, z = (sI s5 l1 9 (1 : Int32)) := ⟨_, rfl⟩
      replace h := h s7 e_s7
      replace hW : Wd G D tc b0 s7 H := by rw [e_s7]; exact hW
      refine x_aload_n C hl dX10_change_125 rfl ?_
      refine lv_iconst (v := (1 : Int32)) hx hb dX10_change_126 (by decide) ?_
      refine x_aload_n C hl dX10_change_127 rfl ?_
      refine x_iload_n C hl dX10_change_128 rfl ?_
      refine y_i (x_runS (As := [.int l2]) C hW hS (T_J6_bitCount_0f7a4 l l2 s7 _ h) (CS.of yv_J6_bitCount_0f7a4 ml_X10_238) ⟨rfl, rfl, ⟨by decide, by decide⟩, by decide, by decide⟩ rfl hl.1 rfl (by simp [rv_cat, cat_i, cat_l]) dX10_change_129) hS (fun w10 s9 H locs h hW hS => ?_)
      refine y_v (x_run (As := [.int (1 : Int32), rv b0 l1, .int w10]) C hW hS (T_X10_noteWrite l l0 (1 : Int32) l1 w10 s9 _ h) t1 kl_10 (CW.of yv_X10_noteWrite ml_X10_218) ⟨rfl, rfl, ⟨by decide, by decide⟩, by decide, by decide⟩ rfl hl.1 rfl (by decide) dX10_change_132) hS (fun s11 H locs h hW hS => ?_)
      refine lv_iconst (v := (1 : Int32)) hx hb dX10_change_135 (by decide) ?_
      exact r_z C hr hW hS h.1 h.2 dX10_change_136
    · replace h := h.2 hc
      refine x_iload_n C hl dX10_change_75 rfl ?_
      refine x_iload C hl dX10_change_76 rfl ?_
      refine lv_ishr hx hb dX10_change_78 ?_
      refine lv_iconst (v := (1 : Int32)) hx hb dX10_change_79 (by decide) ?_
      refine lv_iand hx hb dX10_change_80 ?_
      refine lv_if_eq hx hb dX10_change_81 (tgt := 101) rfl (fun hc => ?_) (fun hc => ?_)
      · replace h := h.1 hc
        exact t_X10_change_101 C hr hK68 hS hW (hl.keep [true, true, true, true, true] rfl) h
      · replace h := h.2 hc
        refine x_aload_n C hl dX10_change_84 rfl ?_
        have t12 := h.1
        replace h := h.2
        refine x_get C hW (t := 10) (k := 0) t12 kl_10 (by decide) fl_X10_43 (v := rv b0 (mR σ l0 0)) rfl dX10_change_85 ?_
        refine x_iload_n C hl dX10_change_88 rfl ?_
        refine x_iload C hl dX10_change_89 rfl ?_
        refine x_aload_n C hl dX10_change_91 rfl ?_
        have t13 := h.1
        replace h := h.2
        refine x_get C hW (t := 7) (k := 6) t13 kl_7 (by decide) fl_X10_181 (v := rv b0 (mR σ l1 6)) rfl dX10_change_92 ?_
        refine x_iload C hl dX10_change_95 rfl ?_
        have t14 := h.1
        replace h := h.2
        have v15 := h.1
        replace h := h.2
        refine x_iald C hW t14 v15 dX10_change_97 ?_
        have t16 := h.1
        replace h := h.2
        refine y_v (x_run (As := [.int l3, .int l4, .int (mI σ (mR σ l1 6) l4.toNatClampNeg)]) C hW hS (T_X5_set l (mR σ l0 0) l3 l4 (mI σ (mR σ l1 6) l4.toNatClampNeg) σ _ h) t16 kl_5 (CW.of yv_X5_set ml_X10_214) ⟨rfl, rfl, ⟨by decide, by decide⟩, by decide, by decide⟩ rfl hl.1 rfl (by decide) dX10_change_98) hS (fun s17 H locs h hW hS => ?_)
        exact t_X10_change_101 C hr hK68 hS hW (hl.keep [true, true, true, true, true] rfl) h
set_option maxRecDepth 20000 in
set_option maxHeartbeats 4000000 in
theorem t_X10_change_68 {p : Program} {l : Launch} {e : Env} {s : State} {m : MethodId} {args : Array Value} {below : List Frame} {meth : Method} {c : Code} {H : Heap} {locs : List Loc} {D : va_G} {tc : Nat → ClassId} {b0 : Nat} {ls : Array Slot} {G : Lay} {Qx : Int32 → Mem → Prop} {l0 : Nat} {l1 : Nat} {l2 : Int32} {l3 : Int32} {l4 : Int32}  {σ : Mem} (C : Cx p s m args meth c cX10_change RX10 5 D tc b0) (hr : meth.sig.returnType = (some FieldType.boolean)) (hS : va_S (AA b0) s.heap H locs) (hW : Wd G D tc b0 σ H) (hl : hL b0 ls 5 [some (.inr (.inr l0)), some (.inr (.inr l1)), some (.inl l2), some (.inl l3), some (.inl l4)]) (h : X_X10_change_68 G Qx l0 l1 l2 l3 l4 σ) : W p l e rm_X10_change s m args below meth c H locs 0 0 (MQ below (va_Qi Qx (fun u t => Pw G D tc b0 u t) (AA b0)) args s 0 0 (AA b0)) (F0 m 68 ls []) := by
  obtain ⟨n, h⟩ := h
  exact t_X10_change_68_n C hr n l4 σ H locs ls hS hW hl h
set_option maxRecDepth 20000 in
set_option maxHeartbeats 4000000 in
theorem t_X10_change_54 {p : Program} {l : Launch} {e : Env} {s : State} {m : MethodId} {args : Array Value} {below : List Frame} {meth : Method} {c : Code} {H : Heap} {locs : List Loc} {D : va_G} {tc : Nat → ClassId} {b0 : Nat} {ls : Array Slot} {G : Lay} {Qx : Int32 → Mem → Prop} {l0 : Nat} {l1 : Nat} {l2 : Int32} {l3 : Int32}  {σ : Mem} (C : Cx p s m args meth c cX10_change RX10 5 D tc b0) (hr : meth.sig.returnType = (some FieldType.boolean)) (hS : va_S (AA b0) s.heap H locs) (hW : Wd G D tc b0 σ H) (hl : hL b0 ls 5 [some (.inr (.inr l0)), some (.inr (.inr l1)), some (.inl l2), some (.inl l3), none]) (h : X_X10_change_54 G Qx l0 l1 l2 l3  σ) : W p l e rm_X10_change s m args below meth c H locs 0 0 (MQ below (va_Qi Qx (fun u t => Pw G D tc b0 u t) (AA b0)) args s 0 0 (AA b0)) (F0 m 54 ls []) := by
  have hx := C.1
  have hb := C.2.1
  unfold X_X10_change_54 at h
  refine x_aload_n C hl dX10_change_54 rfl ?_
  refine x_aload_n C hl dX10_change_55 rfl ?_
  refine x_iload_n C hl dX10_change_56 rfl ?_
  have t1 := h.1
  replace h := h.2
  refine y_i (x_run (As := [rv b0 l1, .int l2]) C hW hS (T_X10_keepsRules l l0 l1 l2 σ _ h) t1 kl_10 (CW.of yv_X10_keepsRules ml_X10_204) ⟨rfl, rfl, ⟨by decide, by decide⟩, by decide, by decide⟩ rfl hl.1 rfl (by decide) dX10_change_57) hS (fun w3 s2 H locs h hW hS => ?_)
  refine lv_if_ne hx hb dX10_change_60 (tgt := 65) rfl (fun hc => ?_) (fun hc => ?_)
  · replace h := h.2 hc
    refine lv_iconst (v := (0 : Int32)) hx hb dX10_change_65 (by decide) ?_
    refine x_istore C hl dX10_change_66 (by decide) rfl (fun ls hl => ?_)
    exact t_X10_change_68 C hr hS hW (hl.keep [true, true, true, true, true] rfl) h
  · replace h := h.1 hc
    refine lv_iconst (v := (0 : Int32)) hx hb dX10_change_63 (by decide) ?_
    exact r_z C hr hW hS h.1 h.2 dX10_change_64
set_option maxRecDepth 20000 in
set_option maxHeartbeats 4000000 in
theorem t_X10_change_0 {p : Program} {l : Launch} {e : Env} {s : State} {m : MethodId} {args : Array Value} {below : List Frame} {meth : Method} {c : Code} {H : Heap} {locs : List Loc} {D : va_G} {tc : Nat → ClassId} {b0 : Nat} {ls : Array Slot} {G : Lay} {Qx : Int32 → Mem → Prop} {l0 : Nat} {l1 : Nat} {l2 : Int32}  {σ : Mem} (C : Cx p s m args meth c cX10_change RX10 5 D tc b0) (hr : meth.sig.returnType = (some FieldType.boolean)) (hS : va_S (AA b0) s.heap H locs) (hW : Wd G D tc b0 σ H) (hl : hL b0 ls 5 [some (.inr (.inr l0)), some (.inr (.inr l1)), some (.inl l2), none, none]) (h : X_X10_change_0 G Qx l0 l1 l2  σ) : W p l e rm_X10_change s m args below meth c H locs 0 0 (MQ below (va_Qi Qx (fun u t => Pw G D tc b0 u t) (AA b0)) args s 0 0 (AA b0)) (F0 m 0 ls []) := by
  have hx := C.1
  have hb := C.2.1
  unfold X_X10_change_0 at h
  refine x_aload_n C hl dX10_change_0 rfl ?_
  have t1 := h.1
  replace h := h.2
  refine x_get C hW (t := 10) (k := 0) t1 kl_10 (by decide) fl_X10_43 (v := rv b0 (mR σ l0 0)) rfl dX10_change_1 ?_
  refine x_aload_n C hl dX10_change_4 rfl ?_
  have t2 := h.1
  replace h := h.2
  refine x_get C hW (t := 7) (k := 2) t2 kl_7 (by decide) fl_X10_198 (v := .int (mI σ l1 2)) rfl dX10_change_5 ?_
  refine x_aload_n C hl dX10_change_8 rfl ?_
  refine x_get C hW (t := 7) (k := 3) t2 kl_7 (by decide) fl_X10_207 (v := .int (mI σ l1 3)) rfl dX10_change_9 ?_
  have t3 := h.1
  replace h := h.2
  refine y_i (x_run (As := [.int (mI σ l1 2), .int (mI σ l1 3)]) C hW hS (T_X5_rowOf l (mR σ l0 0) (mI σ l1 2) (mI σ l1 3) σ _ h) t3 kl_5 (CW.of yv_X5_rowOf ml_X10_229) ⟨rfl, rfl, ⟨by decide, by decide⟩, by decide, by decide⟩ rfl hl.1 rfl (by decide) dX10_change_12) hS (fun w5 s4 H locs h hW hS => ?_)
  refine x_istore_n C hl dX10_change_15 (by decide) rfl (fun ls hl => ?_)
  refine x_iload_n C hl dX10_change_16 rfl ?_
  refine lv_iconst (v := (-1 : Int32)) hx hb dX10_change_17 (by decide) ?_
  refine lv_icmp_eq hx hb dX10_change_18 (tgt := 45) rfl (fun hc => ?_) (fun hc => ?_)
  · replace h := h.1 hc
    exact t_X10_change_45 C hr hS hW (hl.keep [true, true, false, false, false] rfl) h
  · replace h := h.2 hc
    refine x_aload_n C hl dX10_change_21 rfl ?_
    refine x_get C hW (t := 7) (k := 1) t2 kl_7 (by decide) fl_X10_118 (v := .int (mI s4 l1 1)) rfl dX10_change_22 ?_
    refine lv_iconst (v := (1 : Int32)) hx hb dX10_change_25 (by decide) ?_
    refine lv_icmp_ne hx hb dX10_change_26 (tgt := 54) rfl (fun hc => ?_) (fun hc => ?_)
    · replace h := h.2 hc
      exact t_X10_change_54 C hr hS hW (hl.keep [true, true, true, true, false] rfl) h
    · replace h := h.1 hc
      refine x_aload_n C hl dX10_change_29 rfl ?_
      refine x_get C hW (t := 10) (k := 0) t1 kl_10 (by decide) fl_X10_43 (v := rv b0 (mR s4 l0 0)) rfl dX10_change_30 ?_
      have t6 := h.1
      replace h := h.2
      refine x_get C hW (t := 5) (k := 4) t6 kl_5 (by decide) fl_X10_233 (v := rv b0 (mR s4 (mR s4 l0 0) 4)) rfl dX10_change_33 ?_
      refine x_iload_n C hl dX10_change_36 rfl ?_
      have t7 := h.1
      replace h := h.2
      have v8 := h.1
      replace h := h.2
      refine x_iald C hW t7 v8 dX10_change_37 ?_
      refine x_aload_n C hl dX10_change_38 rfl ?_
      refine x_get C hW (t := 7) (k := 5) t2 kl_7 (by decide) fl_X10_236 (v := .int (mI s4 l1 5)) rfl dX10_change_39 ?_
      refine lv_icmp_eq hx hb dX10_change_42 (tgt := 54) rfl (fun hc => ?_) (fun hc => ?_)
      · replace h := h.1 hc
        exact t_X10_change_54 C hr hS hW (hl.keep [true, true, true, true, false] rfl) h
      · replace h := h.2 hc
        exact t_X10_change_45 C hr hS hW (hl.keep [true, true, false, false, false] rfl) h
theorem T_X10_change (l : Launch) {G : Lay} {D : va_G} {tc : Nat → ClassId} {b0 : Nat} (l0 : Nat) (l1 : Nat) (l2 : Int32) (σ : Mem) (Qx : Int32 → Mem → Prop) (h : X_X10_change G Qx l0 l1 l2 σ) : MI l yX10_change cX10_change 5 ((some FieldType.boolean)) rm_X10_change G D tc b0 [rv b0 l0, rv b0 l1, .int l2] σ Qx :=
  x_entry (y := yX10_change) [.inr (.inr l0), .inr (.inr l1), .inl l2] 2 (by decide) (Nat.le_of_ble_eq_true rfl) (fun p e s m args below meth c ls C hr hW hl => t_X10_change_0 C hr va_S.rf hW (hl.keep [true, true, true, false, false] rfl) h)
/-! X10_changeAll -/
set_option maxRecDepth 20000 in
set_option maxHeartbeats 4000000 in
theorem t_X10_changeAll_50 {p : Program} {l : Launch} {e : Env} {s : State} {m : MethodId} {args : Array Value} {below : List Frame} {meth : Method} {c : Code} {H : Heap} {locs : List Loc} {D : va_G} {tc : Nat → ClassId} {b0 : Nat} {ls : Array Slot} {G : Lay} {Qx : Int32 → Mem → Prop} {l0 : Nat} {l1 : Int32}  {K2 : Int32 × Mem → Prop} {σ : Mem} (C : Cx p s m args meth c cX10_changeAll RX10 4 D tc b0) (hr : meth.sig.returnType = (some FieldType.boolean)) (hK2 : ∀ (x1 : Int32) (σ : Mem) (H : Heap) (locs : List Loc) (ls : Array Slot), va_S (AA b0) s.heap H locs → Wd G D tc b0 σ H → hL b0 ls 4 [some (.inr (.inr l0)), some (.inl x1), none, none] → K2 (x1, σ) → W p l e rm_X10_changeAll s m args below meth c H locs 0 0 (MQ below (va_Qi Qx (fun u t => Pw G D tc b0 u t) (AA b0)) args s 0 0 (AA b0)) (F0 m 2 ls [])) (hS : va_S (AA b0) s.heap H locs) (hW : Wd G D tc b0 σ H) (hl : hL b0 ls 4 [some (.inr (.inr l0)), some (.inl l1), none, none]) (h : X_X10_changeAll_50 G Qx K2 l0 l1  σ) : W p l e rm_X10_changeAll s m args below meth c H locs 0 0 (MQ below (va_Qi Qx (fun u t => Pw G D tc b0 u t) (AA b0)) args s 0 0 (AA b0)) (F0 m 50 ls []) := by
  have hx := C.1
  have hb := C.2.1
  unfold X_X10_changeAll_50 at h
  refine x_iinc C hl dX10_changeAll_50 rfl (v := (1 : Int32)) (by decide) (by decide) rfl (fun ls hl => ?_)
  refine lv_goto hx hb dX10_changeAll_53 (tgt := 2) rfl ?_
  exact hK2 _ _ _ _ _ hS hW (hl.keep [true, true, false, false] rfl) h
set_option maxRecDepth 20000 in
set_option maxHeartbeats 4000000 in
theorem t_X10_changeAll_35 {p : Program} {l : Launch} {e : Env} {s : State} {m : MethodId} {args : Array Value} {below : List Frame} {meth : Method} {c : Code} {H : Heap} {locs : List Loc} {D : va_G} {tc : Nat → ClassId} {b0 : Nat} {ls : Array Slot} {G : Lay} {Qx : Int32 → Mem → Prop} {l0 : Nat} {l1 : Int32} {l2 : Nat} {l3 : Int32}  {K2 : Int32 × Mem → Prop} {σ : Mem} (C : Cx p s m args meth c cX10_changeAll RX10 4 D tc b0) (hr : meth.sig.returnType = (some FieldType.boolean)) (hK2 : ∀ (x1 : Int32) (σ : Mem) (H : Heap) (locs : List Loc) (ls : Array Slot), va_S (AA b0) s.heap H locs → Wd G D tc b0 σ H → hL b0 ls 4 [some (.inr (.inr l0)), some (.inl x1), none, none] → K2 (x1, σ) → W p l e rm_X10_changeAll s m args below meth c H locs 0 0 (MQ below (va_Qi Qx (fun u t => Pw G D tc b0 u t) (AA b0)) args s 0 0 (AA b0)) (F0 m 2 ls [])) (hS : va_S (AA b0) s.heap H locs) (hW : Wd G D tc b0 σ H) (hl : hL b0 ls 4 [some (.inr (.inr l0)), some (.inl l1), some (.inr (.inr l2)), some (.inl l3)]) (h : X_X10_changeAll_35 G Qx K2 l0 l1 l2 l3  σ) : W p l e rm_X10_changeAll s m args below meth c H locs 0 0 (MQ below (va_Qi Qx (fun u t => Pw G D tc b0 u t) (AA b0)) args s 0 0 (AA b0)) (F0 m 35 ls []) := by
  have hx := C.1
  have hb := C.2.1
  unfold X_X10_changeAll_35 at h
  refine x_iload_n C hl dX10_changeAll_35 rfl ?_
  refine lv_if_eq hx hb dX10_changeAll_36 (tgt := 50) rfl (fun hc => ?_) (fun hc => ?_)
  · replace h := h.1 hc
    exact t_X10_changeAll_50 C hr hK2 hS hW (hl.keep [true, true, false, false] rfl) h
  · replace h := h.2 hc
    refine x_aload_n C hl dX10_changeAll_39 rfl ?_
    refine x_aload_n C hl dX10_changeAll_40 rfl ?_
    refine x_iload_n C hl dX10_changeAll_41 rfl ?_
    have t1 := h.1
    replace h := h.2
    refine y_i (x_run (As := [rv b0 l2, .int l3]) C hW hS (T_X10_change l l0 l2 l3 σ _ h) t1 kl_10 (CW.of yv_X10_change ml_X10_226) ⟨rfl, rfl, ⟨by decide, by decide⟩, by decide, by decide⟩ rfl hl.1 rfl (by decide) dX10_changeAll_42) hS (fun w3 s2 H locs h hW hS => ?_)
    refine lv_if_ne hx hb dX10_changeAll_45 (tgt := 50) rfl (fun hc => ?_) (fun hc => ?_)
    · replace h := h.2 hc
      exact t_X10_changeAll_50 C hr hK2 hS hW (hl.keep [true, true, false, false] rfl) h
    · replace h := h.1 hc
      refine lv_iconst (v := (0 : Int32)) hx hb dX10_changeAll_48 (by decide) ?_
      exact r_z C hr hW hS h.1 h.2 dX10_changeAll_49
set_option maxRecDepth 20000 in
set_option maxHeartbeats 4000000 in
theorem t_X10_changeAll_2_n {p : Program} {l : Launch} {e : Env} {s : State} {m : MethodId} {args : Array Value} {below : List Frame} {meth : Method} {c : Code} {D : va_G} {tc : Nat → ClassId} {b0 : Nat} {G : Lay} {Qx : Int32 → Mem → Prop} {l0 : Nat} (C : Cx p s m args meth c cX10_changeAll RX10 4 D tc b0) (hr : meth.sig.returnType = (some FieldType.boolean)) (n : Nat) : ∀ (l1 : Int32) (σ : Mem) (H : Heap) (locs : List Loc) (ls : Array Slot), va_S (AA b0) s.heap H locs → Wd G D tc b0 σ H → hL b0 ls 4 [some (.inr (.inr l0)), some (.inl l1), none, none] → Lp (X_X10_changeAll_2_s G Qx l0) n (l1, σ) → W p l e rm_X10_changeAll s m args below meth c H locs 0 0 (MQ below (va_Qi Qx (fun u t => Pw G D tc b0 u t) (AA b0)) args s 0 0 (AA b0)) (F0 m 2 ls []) := by
  have hx := C.1
  have hb := C.2.1
  induction n with
  | zero => intro l1 σ H locs ls hS hW hl h; exact False.elim h
  | succ n hK2 =>
    intro l1 σ H locs ls hS hW hl h
    replace h : X_X10_changeAll_2_s G Qx l0 (Lp (X_X10_changeAll_2_s G Qx l0) n) (l1, σ) := h
    unfold X_X10_changeAll_2_s at h
    refine x_iload_n C hl dX10_changeAll_2 rfl ?_
    refine x_aload_n C hl dX10_changeAll_3 rfl ?_
    have t1 := h.1
    replace h := h.2
    refine x_get C hW (t := 10) (k := 3) t1 kl_10 (by decide) fl_X10_100 (v := .int (mI σ l0 3)) rfl dX10_changeAll_4 ?_
    refine lv_icmp_ge hx hb dX10_changeAll_7 (tgt := 56) rfl (fun hc => ?_) (fun hc => ?_)
    · replace h := h.1 hc
      refine lv_iconst (v := (1 : Int32)) hx hb dX10_changeAll_56 (by decide) ?_
      exact r_z C hr hW hS h.1 h.2 dX10_changeAll_57
    · replace h := h.2 hc
      refine x_aload_n C hl dX10_changeAll_10 rfl ?_
      refine x_get C hW (t := 10) (k := 2) t1 kl_10 (by decide) fl_X10_11 (v := rv b0 (mR σ l0 2)) rfl dX10_changeAll_11 ?_
      refine x_iload_n C hl dX10_changeAll_14 rfl ?_
      have t2 := h.1
      replace h := h.2
      have v3 := h.1
      replace h := h.2
      refine x_aald C hW (t := 105) (t0 := 6) t2 (by decide) rfl v3 dX10_changeAll_15 ?_
      refine x_astore_n C hl dX10_changeAll_16 (by decide) rfl (fun ls hl => ?_)
      refine x_aload_n C hl dX10_changeAll_17 rfl ?_
      have t4 := h.1
      replace h := h.2
      refine x_get C hW (t := 7) (k := 10) t4 kl_7 (by decide) fl_X10_112 (v := .int (mI σ (mR σ (mR σ l0 2) l1.toNatClampNeg) 10)) rfl dX10_changeAll_18 ?_
      refine x_istore_n C hl dX10_changeAll_21 (by decide) rfl (fun ls hl => ?_)
      refine x_aload_n C hl dX10_changeAll_22 rfl ?_
      refine x_get C hW (t := 7) (k := 1) t4 kl_7 (by decide) fl_X10_118 (v := .int (mI σ (mR σ (mR σ l0 2) l1.toNatClampNeg) 1)) rfl dX10_changeAll_23 ?_
      refine lv_iconst (v := (1 : Int32)) hx hb dX10_changeAll_26 (by decide) ?_
      refine lv_icmp_ne hx hb dX10_changeAll_27 (tgt := 35) rfl (fun hc => ?_) (fun hc => ?_)
      · replace h := h.2 hc
        exact t_X10_changeAll_35 C hr hK2 hS hW (hl.keep [true, true, true, true] rfl) h
      · replace h := h.1 hc
        refine x_aload_n C hl dX10_changeAll_30 rfl ?_
        refine y_i (x_run (As := []) C hW hS (T_X7_changes l (mR σ (mR σ l0 2) l1.toNatClampNeg) σ _ h) t4 kl_7 (CW.of yv_X7_changes ml_X10_125) ⟨rfl, rfl, ⟨by decide, by decide⟩, by decide, by decide⟩ rfl hl.1 rfl (by decide) dX10_changeAll_31) hS (fun w6 s5 H locs h hW hS => ?_)
        refine x_istore_n C hl dX10_changeAll_34 (by decide) rfl (fun ls hl => ?_)
        exact t_X10_changeAll_35 C hr hK2 hS hW (hl.keep [true, true, true, true] rfl) h
set_option maxRecDepth 20000 in
set_option maxHeartbeats 4000000 in
theorem t_X10_changeAll_2 {p : Program} {l : Launch} {e : Env} {s : State} {m : MethodId} {args : Array Value} {below : List Frame} {meth : Method} {c : Code} {H : Heap} {locs : List Loc} {D : va_G} {tc : Nat → ClassId} {b0 : Nat} {ls : Array Slot} {G : Lay} {Qx : Int32 → Mem → Prop} {l0 : Nat} {l1 : Int32}  {σ : Mem} (C : Cx p s m args meth c cX10_changeAll RX10 4 D tc b0) (hr : meth.sig.returnType = (some FieldType.boolean)) (hS : va_S (AA b0) s.heap H locs) (hW : Wd G D tc b0 σ H) (hl : hL b0 ls 4 [some (.inr (.inr l0)), some (.inl l1), none, none]) (h : X_X10_changeAll_2 G Qx l0 l1 σ) : W p l e rm_X10_changeAll s m args below meth c H locs 0 0 (MQ below (va_Qi Qx (fun u t => Pw G D tc b0 u t) (AA b0)) args s 0 0 (AA b0)) (F0 m 2 ls []) := by
  obtain ⟨n, h⟩ := h
  exact t_X10_changeAll_2_n C hr n l1 σ H locs ls hS hW hl h
set_option maxRecDepth 20000 in
set_option maxHeartbeats 4000000 in
theorem t_X10_changeAll_0 {p : Program} {l : Launch} {e : Env} {s : State} {m : MethodId} {args : Array Value} {below : List Frame} {meth : Method} {c : Code} {H : Heap} {locs : List Loc} {D : va_G} {tc : Nat → ClassId} {b0 : Nat} {ls : Array Slot} {G : Lay} {Qx : Int32 → Mem → Prop} {l0 : Nat}  {σ : Mem} (C : Cx p s m args meth c cX10_changeAll RX10 4 D tc b0) (hr : meth.sig.returnType = (some FieldType.boolean)) (hS : va_S (AA b0) s.heap H locs) (hW : Wd G D tc b0 σ H) (hl : hL b0 ls 4 [some (.inr (.inr l0)), none, none, none]) (h : X_X10_changeAll_0 G Qx l0  σ) : W p l e rm_X10_changeAll s m args below meth c H locs 0 0 (MQ below (va_Qi Qx (fun u t => Pw G D tc b0 u t) (AA b0)) args s 0 0 (AA b0)) (F0 m 0 ls []) := by
  have hx := C.1
  have hb := C.2.1
  unfold X_X10_changeAll_0 at h
  refine lv_iconst (v := (0 : Int32)) hx hb dX10_changeAll_0 (by decide) ?_
  refine x_istore_n C hl dX10_changeAll_1 (by decide) rfl (fun ls hl => ?_)
  exact t_X10_changeAll_2 C hr hS hW (hl.keep [true, true, false, false] rfl) h
theorem T_X10_changeAll (l : Launch) {G : Lay} {D : va_G} {tc : Nat → ClassId} {b0 : Nat} (l0 : Nat) (σ : Mem) (Qx : Int32 → Mem → Prop) (h : X_X10_changeAll G Qx l0 σ) : MI l yX10_changeAll cX10_changeAll 4 ((some FieldType.boolean)) rm_X10_changeAll G D tc b0 [rv b0 l0] σ Qx :=
  x_entry (y := yX10_changeAll) [.inr (.inr l0)] 3 (by decide) (Nat.le_of_ble_eq_true rfl) (fun p e s m args below meth c ls C hr hW hl => t_X10_changeAll_0 C hr va_S.rf hW (hl.keep [true, false, false, false] rfl) h)
/-! X10_perform -/
set_option maxRecDepth 20000 in
set_option maxHeartbeats 4000000 in
theorem t_X10_perform_83 {p : Program} {l : Launch} {e : Env} {s : State} {m : MethodId} {args : Array Value} {below : List Frame} {meth : Method} {c : Code} {H : Heap} {locs : List Loc} {D : va_G} {tc : Nat → ClassId} {b0 : Nat} {ls : Array Slot} {G : Lay} {Qx : Int32 → Mem → Prop} {l0 : Nat}  {σ : Mem} (C : Cx p s m args meth c cX10_perform RX10 2 D tc b0) (hr : meth.sig.returnType = (some FieldType.int)) (hS : va_S (AA b0) s.heap H locs) (hW : Wd G D tc b0 σ H) (hl : hL b0 ls 2 [some (.inr (.inr l0)), none]) (h : X_X10_perform_83 G Qx l0  σ) : W p l e rm_X10_perform s m args below meth c H locs 0 0 (MQ below (va_Qi Qx (fun u t => Pw G D tc b0 u t) (AA b0)) args s 0 0 (AA b0)) (F0 m 83 ls []) := by
  have hx := C.1
  have hb := C.2.1
  unfold X_X10_perform_83 at h
  refine x_aload_n C hl dX10_perform_83 rfl ?_
  have t1 := h.1
  replace h := h.2
  refine x_get C hW (t := 10) (k := 4) t1 kl_10 (by decide) fl_X10_91 (v := .int (mI σ l0 4)) rfl dX10_perform_84 ?_
  exact r_i C hr hW hS h dX10_perform_87
set_option maxRecDepth 20000 in
set_option maxHeartbeats 4000000 in
theorem t_X10_perform_70 {p : Program} {l : Launch} {e : Env} {s : State} {m : MethodId} {args : Array Value} {below : List Frame} {meth : Method} {c : Code} {H : Heap} {locs : List Loc} {D : va_G} {tc : Nat → ClassId} {b0 : Nat} {ls : Array Slot} {G : Lay} {Qx : Int32 → Mem → Prop} {l0 : Nat} {l1 : Nat}  {σ : Mem} (C : Cx p s m args meth c cX10_perform RX10 2 D tc b0) (hr : meth.sig.returnType = (some FieldType.int)) (hS : va_S (AA b0) s.heap H locs) (hW : Wd G D tc b0 σ H) (hl : hL b0 ls 2 [some (.inr (.inr l0)), some (.inr (.inr l1))]) (h : X_X10_perform_70 G Qx l0 l1  σ) : W p l e rm_X10_perform s m args below meth c H locs 0 0 (MQ below (va_Qi Qx (fun u t => Pw G D tc b0 u t) (AA b0)) args s 0 0 (AA b0)) (F0 m 70 ls []) := by
  have hx := C.1
  have hb := C.2.1
  unfold X_X10_perform_70 at h
  refine x_aload_n C hl dX10_perform_70 rfl ?_
  have t1 := h.1
  replace h := h.2
  refine x_get C hW (t := 10) (k := 4) t1 kl_10 (by decide) fl_X10_91 (v := .int (mI σ l0 4)) rfl dX10_perform_71 ?_
  refine lv_iconst (v := (2 : Int32)) hx hb dX10_perform_74 (by decide) ?_
  refine lv_icmp_ne hx hb dX10_perform_75 (tgt := 83) rfl (fun hc => ?_) (fun hc => ?_)
  · replace h := h.2 hc
    exact t_X10_perform_83 C hr hS hW (hl.keep [true, false] rfl) h
  · replace h := h.1 hc
    refine x_aload_n C hl dX10_perform_78 rfl ?_
    refine lv_iconst (v := (0 : Int32)) hx hb dX10_perform_79 (by decide) ?_
    have t2 := h.1
    replace h := h.2
    have b4 := h.1
    replace h := h.2
    refine x_putI C hW hS (t := 9) (k := 4) t2 kl_9 (by decide) fl_X10_94 rfl rfl (bz_n b4) (bz_f b4) dX10_perform_80 (fun H locs hW hS => ?_)
    obtain ⟨s3, e_s3⟩ : ∃ z : Mem, z = (sI σ l1 4 (0 : Int32)) := ⟨_, rfl⟩
    replace h := h s3 e_s3
    replace hW : Wd G D tc b0 s3 H := by rw [e_s3]; exact hW
    exact t_X10_perform_83 C hr hS hW (hl.keep [true, false] rfl) h
set_option maxRecDepth 20000 in
set_option maxHeartbeats 4000000 in
theorem t_X10_perform_59 {p : Program} {l : Launch} {e : Env} {s : State} {m : MethodId} {args : Array Value} {below : List Frame} {meth : Method} {c : Code} {H : Heap} {locs : List Loc} {D : va_G} {tc : Nat → ClassId} {b0 : Nat} {ls : Array Slot} {G : Lay} {Qx : Int32 → Mem → Prop} {l0 : Nat} {l1 : Nat}  {σ : Mem} (C : Cx p s m args meth c cX10_perform RX10 2 D tc b0) (hr : meth.sig.returnType = (some FieldType.int)) (hS : va_S (AA b0) s.heap H locs) (hW : Wd G D tc b0 σ H) (hl : hL b0 ls 2 [some (.inr (.inr l0)), some (.inr (.inr l1))]) (h : X_X10_perform_59 G Qx l0 l1  σ) : W p l e rm_X10_perform s m args below meth c H locs 0 0 (MQ below (va_Qi Qx (fun u t => Pw G D tc b0 u t) (AA b0)) args s 0 0 (AA b0)) (F0 m 59 ls []) := by
  have hx := C.1
  have hb := C.2.1
  unfold X_X10_perform_59 at h
  refine x_aload_n C hl dX10_perform_59 rfl ?_
  have t1 := h.1
  replace h := h.2
  refine x_get C hW (t := 10) (k := 0) t1 kl_10 (by decide) fl_X10_43 (v := rv b0 (mR σ l0 0)) rfl dX10_perform_60 ?_
  refine x_aload_n C hl dX10_perform_63 rfl ?_
  refine x_get C hW (t := 10) (k := 1) t1 kl_10 (by decide) fl_X10_56 (v := rv b0 (mR σ l0 1)) rfl dX10_perform_64 ?_
  have t2 := h.1
  replace h := h.2
  refine y_v (x_run (As := [rv b0 (mR σ l0 1)]) C hW hS (T_X5_copyFrom l (mR σ l0 0) (mR σ l0 1) σ _ h) t2 kl_5 (CW.of yv_X5_copyFrom ml_X10_73) ⟨rfl, rfl, ⟨by decide, by decide⟩, by decide, by decide⟩ rfl hl.1 rfl (by decide) dX10_perform_67) hS (fun s3 H locs h hW hS => ?_)
  exact t_X10_perform_70 C hr hS hW (hl.keep [true, true] rfl) h
set_option maxRecDepth 20000 in
set_option maxHeartbeats 4000000 in
theorem t_X10_perform_0 {p : Program} {l : Launch} {e : Env} {s : State} {m : MethodId} {args : Array Value} {below : List Frame} {meth : Method} {c : Code} {H : Heap} {locs : List Loc} {D : va_G} {tc : Nat → ClassId} {b0 : Nat} {ls : Array Slot} {G : Lay} {Qx : Int32 → Mem → Prop} {l0 : Nat} {l1 : Nat}  {σ : Mem} (C : Cx p s m args meth c cX10_perform RX10 2 D tc b0) (hr : meth.sig.returnType = (some FieldType.int)) (hS : va_S (AA b0) s.heap H locs) (hW : Wd G D tc b0 σ H) (hl : hL b0 ls 2 [some (.inr (.inr l0)), some (.inr (.inr l1))]) (h : X_X10_perform_0 G Qx l0 l1  σ) : W p l e rm_X10_perform s m args below meth c H locs 0 0 (MQ below (va_Qi Qx (fun u t => Pw G D tc b0 u t) (AA b0)) args s 0 0 (AA b0)) (F0 m 0 ls []) := by
  have hx := C.1
  have hb := C.2.1
  unfold X_X10_perform_0 at h
  refine x_aload_n C hl dX10_perform_0 rfl ?_
  have t1 := h.1
  replace h := h.2
  refine y_v (x_run (As := []) C hW hS (T_X10_begin l l0 σ _ h) t1 kl_10 (CW.of yv_X10_begin ml_X10_62) ⟨rfl, rfl, ⟨by decide, by decide⟩, by decide, by decide⟩ rfl hl.1 rfl (by decide) dX10_perform_1) hS (fun s2 H locs h hW hS => ?_)
  refine x_aload_n C hl dX10_perform_4 rfl ?_
  refine x_aload_n C hl dX10_perform_5 rfl ?_
  refine y_v (x_run (As := [rv b0 l1]) C hW hS (T_X10_arrange l l0 l1 s2 _ h) t1 kl_10 (CW.of yv_X10_arrange ml_X10_65) ⟨rfl, rfl, ⟨by decide, by decide⟩, by decide, by decide⟩ rfl hl.1 rfl (by decide) dX10_perform_6) hS (fun s3 H locs h hW hS => ?_)
  refine x_aload_n C hl dX10_perform_9 rfl ?_
  refine lv_iconst (v := (2 : Int32)) hx hb dX10_perform_10 (by decide) ?_
  refine y_v (x_run (As := [.int (2 : Int32)]) C hW hS (T_X10_runHooks l l0 (2 : Int32) s3 _ h) t1 kl_10 (CW.of yv_X10_runHooks ml_X10_69) ⟨rfl, rfl, ⟨by decide, by decide⟩, by decide, by decide⟩ rfl hl.1 rfl (by decide) dX10_perform_11) hS (fun s4 H locs h hW hS => ?_)
  refine x_aload_n C hl dX10_perform_14 rfl ?_
  refine lv_iconst (v := (1 : Int32)) hx hb dX10_perform_15 (by decide) ?_
  refine y_v (x_run (As := [.int (1 : Int32)]) C hW hS (T_X10_runHooks l l0 (1 : Int32) s4 _ h) t1 kl_10 (CW.of yv_X10_runHooks ml_X10_69) ⟨rfl, rfl, ⟨by decide, by decide⟩, by decide, by decide⟩ rfl hl.1 rfl (by decide) dX10_perform_16) hS (fun s5 H locs h hW hS => ?_)
  refine x_aload_n C hl dX10_perform_19 rfl ?_
  refine x_get C hW (t := 10) (k := 1) t1 kl_10 (by decide) fl_X10_56 (v := rv b0 (mR s5 l0 1)) rfl dX10_perform_20 ?_
  refine x_aload_n C hl dX10_perform_23 rfl ?_
  refine x_get C hW (t := 10) (k := 0) t1 kl_10 (by decide) fl_X10_43 (v := rv b0 (mR s5 l0 0)) rfl dX10_perform_24 ?_
  have t6 := h.1
  replace h := h.2
  refine y_v (x_run (As := [rv b0 (mR s5 l0 0)]) C hW hS (T_X5_copyFrom l (mR s5 l0 1) (mR s5 l0 0) s5 _ h) t6 kl_5 (CW.of yv_X5_copyFrom ml_X10_73) ⟨rfl, rfl, ⟨by decide, by decide⟩, by decide, by decide⟩ rfl hl.1 rfl (by decide) dX10_perform_27) hS (fun s7 H locs h hW hS => ?_)
  refine x_aload_n C hl dX10_perform_30 rfl ?_
  refine x_aload_n C hl dX10_perform_31 rfl ?_
  refine y_i (x_run (As := [rv b0 l1]) C hW hS (T_X10_insertAll l l0 l1 s7 _ h) t1 kl_10 (CW.of yv_X10_insertAll ml_X10_77) ⟨rfl, rfl, ⟨by decide, by decide⟩, by decide, by decide⟩ rfl hl.1 rfl (by decide) dX10_perform_32) hS (fun w9 s8 H locs h hW hS => ?_)
  refine lv_if_eq hx hb dX10_perform_35 (tgt := 59) rfl (fun hc => ?_) (fun hc => ?_)
  · replace h := h.1 hc
    exact t_X10_perform_59 C hr hS hW (hl.keep [true, true] rfl) h
  · replace h := h.2 hc
    refine x_aload_n C hl dX10_perform_38 rfl ?_
    refine y_i (x_run (As := []) C hW hS (T_X10_changeAll l l0 s8 _ h) t1 kl_10 (CW.of yv_X10_changeAll ml_X10_81) ⟨rfl, rfl, ⟨by decide, by decide⟩, by decide, by decide⟩ rfl hl.1 rfl (by decide) dX10_perform_39) hS (fun w11 s10 H locs h hW hS => ?_)
    refine lv_if_eq hx hb dX10_perform_42 (tgt := 59) rfl (fun hc => ?_) (fun hc => ?_)
    · replace h := h.1 hc
      exact t_X10_perform_59 C hr hS hW (hl.keep [true, true] rfl) h
    · replace h := h.2 hc
      refine x_aload_n C hl dX10_perform_45 rfl ?_
      refine y_i (x_run (As := []) C hW hS (T_X10_deleteAll l l0 s10 _ h) t1 kl_10 (CW.of yv_X10_deleteAll ml_X10_85) ⟨rfl, rfl, ⟨by decide, by decide⟩, by decide, by decide⟩ rfl hl.1 rfl (by decide) dX10_perform_46) hS (fun w13 s12 H locs h hW hS => ?_)
      refine lv_if_eq hx hb dX10_perform_49 (tgt := 59) rfl (fun hc => ?_) (fun hc => ?_)
      · replace h := h.1 hc
        exact t_X10_perform_59 C hr hS hW (hl.keep [true, true] rfl) h
      · replace h := h.2 hc
        refine x_aload_n C hl dX10_perform_52 rfl ?_
        refine y_v (x_run (As := []) C hW hS (T_X10_settle l l0 s12 _ h) t1 kl_10 (CW.of yv_X10_settle ml_X10_88) ⟨rfl, rfl, ⟨by decide, by decide⟩, by decide, by decide⟩ rfl hl.1 rfl (by decide) dX10_perform_53) hS (fun s14 H locs h hW hS => ?_)
        refine lv_goto hx hb dX10_perform_56 (tgt := 70) rfl ?_
        exact t_X10_perform_70 C hr hS hW (hl.keep [true, true] rfl) h
theorem T_X10_perform (l : Launch) {G : Lay} {D : va_G} {tc : Nat → ClassId} {b0 : Nat} (l0 : Nat) (l1 : Nat) (σ : Mem) (Qx : Int32 → Mem → Prop) (h : X_X10_perform G Qx l0 l1 σ) : MI l yX10_perform cX10_perform 2 ((some FieldType.int)) rm_X10_perform G D tc b0 [rv b0 l0, rv b0 l1] σ Qx :=
  x_entry (y := yX10_perform) [.inr (.inr l0), .inr (.inr l1)] 0 (by decide) (Nat.le_of_ble_eq_true rfl) (fun p e s m args below meth c ls C hr hW hl => t_X10_perform_0 C hr va_S.rf hW (hl.keep [true, true] rfl) h)
/-! X11_map -/
set_option maxRecDepth 20000 in
set_option maxHeartbeats 4000000 in
theorem t_X11_map_0 {p : Program} {l : Launch} {e : Env} {s : State} {m : MethodId} {args : Array Value} {below : List Frame} {meth : Method} {c : Code} {H : Heap} {locs : List Loc} {D : va_G} {tc : Nat → ClassId} {b0 : Nat} {ls : Array Slot} {G : Lay} {Qx : Int32 → Mem → Prop} {l0 : Nat}  {σ : Mem} (C : Cx p s m args meth c cX11_map RX11 2 D tc b0) (hr : meth.sig.returnType = (some FieldType.int)) (hS : va_S (AA b0) s.heap H locs) (hW : Wd G D tc b0 σ H) (hl : hL b0 ls 2 [some (.inr (.inr l0)), none]) (h : X_X11_map_0 G Qx l0  σ) : W p l e rm_X11_map s m args below meth c H locs 0 0 (MQ below (va_Qi Qx (fun u t => Pw G D tc b0 u t) (AA b0)) args s 0 0 (AA b0)) (F0 m 0 ls []) := by
  have hx := C.1
  have hb := C.2.1
  unfold X_X11_map_0 at h
  refine x_aload_n C hl dX11_map_0 rfl ?_
  have t1 := h.1
  replace h := h.2
  refine x_get C hW (t := 11) (k := 2) t1 kl_11 (by decide) fl_X11_16 (v := rv b0 (mR σ l0 2)) rfl dX11_map_1 ?_
  refine x_aload_n C hl dX11_map_4 rfl ?_
  refine x_get C hW (t := 11) (k := 0) t1 kl_11 (by decide) fl_X11_9 (v := rv b0 (mR σ l0 0)) rfl dX11_map_5 ?_
  refine x_aload_n C hl dX11_map_8 rfl ?_
  refine x_get C hW (t := 11) (k := 1) t1 kl_11 (by decide) fl_X11_86 (v := .int (mI σ l0 1)) rfl dX11_map_9 ?_
  have t2 := h.1
  replace h := h.2
  refine y_v (x_run (As := [rv b0 (mR σ l0 0), .int (mI σ l0 1)]) C hW hS (T_X8_scan l (mR σ l0 2) (mR σ l0 0) (mI σ l0 1) σ _ h) t2 kl_8 (CW.of yv_X8_scan ml_X11_94) ⟨rfl, rfl, ⟨by decide, by decide⟩, by decide, by decide⟩ rfl hl.1 rfl (by decide) dX11_map_12) hS (fun s3 H locs h hW hS => ?_)
  refine x_aload_n C hl dX11_map_15 rfl ?_
  refine lv_iconst (v := (0 : Int32)) hx hb dX11_map_16 (by decide) ?_
  refine x_putI C hW hS (t := 11) (k := 1) t1 kl_11 (by decide) fl_X11_86 rfl rfl rfl rfl dX11_map_17 (fun H locs hW hS => ?_)
  obtain ⟨s4, e_s4⟩ : ∃ z : Mem, z = (sI s3 l0 1 (0 : Int32)) := ⟨_, rfl⟩
  replace h := h s4 e_s4
  replace hW : Wd G D tc b0 s4 H := by rw [e_s4]; exact hW
  refine x_aload_n C hl dX11_map_20 rfl ?_
  refine x_get C hW (t := 11) (k := 3) t1 kl_11 (by decide) fl_X11_25 (v := rv b0 (mR s4 l0 3)) rfl dX11_map_21 ?_
  refine x_aload_n C hl dX11_map_24 rfl ?_
  refine x_get C hW (t := 11) (k := 7) t1 kl_11 (by decide) fl_X11_57 (v := rv b0 (mR s4 l0 7)) rfl dX11_map_25 ?_
  have t5 := h.1
  replace h := h.2
  refine y_i (x_run (As := [rv b0 (mR s4 l0 7)]) C hW hS (T_X0_readClasses l (mR s4 l0 3) (mR s4 l0 7) s4 _ h) t5 kl_0 (CW.of yv_X0_readClasses ml_X11_98) ⟨rfl, rfl, ⟨by decide, by decide⟩, by decide, by decide⟩ rfl hl.1 rfl (by decide) dX11_map_28) hS (fun w7 s6 H locs h hW hS => ?_)
  refine lv_if_ne hx hb dX11_map_31 (tgt := 36) rfl (fun hc => ?_) (fun hc => ?_)
  · replace h := h.2 hc
    refine x_aload_n C hl dX11_map_36 rfl ?_
    refine x_get C hW (t := 11) (k := 6) t1 kl_11 (by decide) fl_X11_53 (v := rv b0 (mR s6 l0 6)) rfl dX11_map_37 ?_
    have t8 := h.1
    replace h := h.2
    refine x_get C hW (t := 5) (k := 0) t8 kl_5 (by decide) fl_X11_102 (v := rv b0 (mR s6 (mR s6 l0 6) 0)) rfl dX11_map_40 ?_
    refine x_astore_n C hl dX11_map_43 (by decide) rfl (fun ls hl => ?_)
    refine x_aload_n C hl dX11_map_44 rfl ?_
    refine x_get C hW (t := 11) (k := 6) t1 kl_11 (by decide) fl_X11_53 (v := rv b0 (mR s6 l0 6)) rfl dX11_map_45 ?_
    refine x_aload_n C hl dX11_map_48 rfl ?_
    refine x_get C hW (t := 11) (k := 7) t1 kl_11 (by decide) fl_X11_57 (v := rv b0 (mR s6 l0 7)) rfl dX11_map_49 ?_
    refine x_putR C hW hS (t := 5) (k := 0) t8 kl_5 (by decide) fl_X11_102 rfl rfl (fun o => by cases o <;> rfl) (fun o => by cases o <;> rfl) dX11_map_52 (fun H locs hW hS => ?_)
    obtain ⟨s9, e_s9⟩ : ∃ z : Mem, z = (sR s6 (mR s6 l0 6) 0 (mR s6 l0 7)) := ⟨_, rfl⟩
    replace h := h s9 e_s9
    replace hW : Wd G D tc b0 s9 H := by rw [e_s9]; exact hW
    refine x_aload_n C hl dX11_map_55 rfl ?_
    refine x_aload_n C hl dX11_map_56 rfl ?_
    refine x_putR C hW hS (t := 11) (k := 7) t1 kl_11 (by decide) fl_X11_57 rfl rfl (fun o => by cases o <;> rfl) (fun o => by cases o <;> rfl) dX11_map_57 (fun H locs hW hS => ?_)
    obtain ⟨s10, e_s10⟩ : ∃ z : Mem, z = (sR s9 l0 7 (mR s6 (mR s6 l0 6) 0)) := ⟨_, rfl⟩
    replace h := h s10 e_s10
    replace hW : Wd G D tc b0 s10 H := by rw [e_s10]; exact hW
    refine x_aload_n C hl dX11_map_60 rfl ?_
    refine y_v (x_run (As := []) C hW hS (T_X11_beginAnew l l0 s10 _ h) t1 kl_11 (CW.of yv_X11_beginAnew ml_X11_105) ⟨rfl, rfl, ⟨by decide, by decide⟩, by decide, by decide⟩ rfl hl.1 rfl (by decide) dX11_map_61) hS (fun s11 H locs h hW hS => ?_)
    refine x_aload_n C hl dX11_map_64 rfl ?_
    refine x_get C hW (t := 11) (k := 6) t1 kl_11 (by decide) fl_X11_53 (v := rv b0 (mR s11 l0 6)) rfl dX11_map_65 ?_
    have t12 := h.1
    replace h := h.2
    refine x_get C hW (t := 5) (k := 0) t12 kl_5 (by decide) fl_X11_102 (v := rv b0 (mR s11 (mR s11 l0 6) 0)) rfl dX11_map_68 ?_
    have t13 := h.1
    replace h := h.2
    refine x_get C hW (t := 6) (k := 0) t13 kl_6 (by decide) fl_X11_108 (v := .int (mI s11 (mR s11 (mR s11 l0 6) 0) 0)) rfl dX11_map_71 ?_
    exact r_i C hr hW hS h dX11_map_74
  · replace h := h.1 hc
    refine lv_iconst (v := (-1 : Int32)) hx hb dX11_map_34 (by decide) ?_
    exact r_i C hr hW hS h dX11_map_35
theorem T_X11_map (l : Launch) {G : Lay} {D : va_G} {tc : Nat → ClassId} {b0 : Nat} (l0 : Nat) (σ : Mem) (Qx : Int32 → Mem → Prop) (h : X_X11_map G Qx l0 σ) : MI l yX11_map cX11_map 2 ((some FieldType.int)) rm_X11_map G D tc b0 [rv b0 l0] σ Qx :=
  x_entry (y := yX11_map) [.inr (.inr l0)] 1 (by decide) (Nat.le_of_ble_eq_true rfl) (fun p e s m args below meth c ls C hr hW hl => t_X11_map_0 C hr va_S.rf hW (hl.keep [true, false] rfl) h)
/-! X11_close -/
set_option maxRecDepth 20000 in
set_option maxHeartbeats 4000000 in
theorem t_X11_close_19 {p : Program} {l : Launch} {e : Env} {s : State} {m : MethodId} {args : Array Value} {below : List Frame} {meth : Method} {c : Code} {H : Heap} {locs : List Loc} {D : va_G} {tc : Nat → ClassId} {b0 : Nat} {ls : Array Slot} {G : Lay} {Qx : Int32 → Mem → Prop}   {σ : Mem} (C : Cx p s m args meth c cX11_close RX11 5 D tc b0) (hr : meth.sig.returnType = (some FieldType.int)) (hS : va_S (AA b0) s.heap H locs) (hW : Wd G D tc b0 σ H) (hl : hL b0 ls 5 [none, none, none, none, none]) (h : X_X11_close_19 G Qx   σ) : W p l e rm_X11_close s m args below meth c H locs 0 0 (MQ below (va_Qi Qx (fun u t => Pw G D tc b0 u t) (AA b0)) args s 0 0 (AA b0)) (F0 m 19 ls []) := by
  have hx := C.1
  have hb := C.2.1
  unfold X_X11_close_19 at h
  refine lv_iconst (v := (-1 : Int32)) hx hb dX11_close_19 (by decide) ?_
  exact r_i C hr hW hS h dX11_close_20
set_option maxRecDepth 20000 in
set_option maxHeartbeats 4000000 in
theorem t_X11_close_50 {p : Program} {l : Launch} {e : Env} {s : State} {m : MethodId} {args : Array Value} {below : List Frame} {meth : Method} {c : Code} {H : Heap} {locs : List Loc} {D : va_G} {tc : Nat → ClassId} {b0 : Nat} {ls : Array Slot} {G : Lay} {Qx : Int32 → Mem → Prop} {l4 : Int32}  {σ : Mem} (C : Cx p s m args meth c cX11_close RX11 5 D tc b0) (hr : meth.sig.returnType = (some FieldType.int)) (hS : va_S (AA b0) s.heap H locs) (hW : Wd G D tc b0 σ H) (hl : hL b0 ls 5 [none, none, none, none, some (.inl l4)]) (h : X_X11_close_50 G Qx l4  σ) : W p l e rm_X11_close s m args below meth c H locs 0 0 (MQ below (va_Qi Qx (fun u t => Pw G D tc b0 u t) (AA b0)) args s 0 0 (AA b0)) (F0 m 50 ls []) := by
  have hx := C.1
  have hb := C.2.1
  unfold X_X11_close_50 at h
  refine x_iload C hl dX11_close_50 rfl ?_
  exact r_i C hr hW hS h dX11_close_52
set_option maxRecDepth 20000 in
set_option maxHeartbeats 4000000 in
theorem t_X11_close_38 {p : Program} {l : Launch} {e : Env} {s : State} {m : MethodId} {args : Array Value} {below : List Frame} {meth : Method} {c : Code} {H : Heap} {locs : List Loc} {D : va_G} {tc : Nat → ClassId} {b0 : Nat} {ls : Array Slot} {G : Lay} {Qx : Int32 → Mem → Prop} {l3 : Nat} {k0 : Int32} {σ : Mem} (C : Cx p s m args meth c cX11_close RX11 5 D tc b0) (hr : meth.sig.returnType = (some FieldType.int)) (hS : va_S (AA b0) s.heap H locs) (hW : Wd G D tc b0 σ H) (hl : hL b0 ls 5 [none, none, none, some (.inr (.inr l3)), none]) (h : X_X11_close_38 G Qx l3 k0 σ) : W p l e rm_X11_close s m args below meth c H locs 0 0 (MQ below (va_Qi Qx (fun u t => Pw G D tc b0 u t) (AA b0)) args s 0 0 (AA b0)) (F0 m 38 ls [.int k0]) := by
  have hx := C.1
  have hb := C.2.1
  unfold X_X11_close_38 at h
  refine x_istore C hl dX11_close_38 (by decide) rfl (fun ls hl => ?_)
  refine x_iload C hl dX11_close_40 rfl ?_
  refine lv_if_ne hx hb dX11_close_42 (tgt := 50) rfl (fun hc => ?_) (fun hc => ?_)
  · replace h := h.2 hc
    exact t_X11_close_50 C hr hS hW (hl.keep [false, false, false, false, true] rfl) h
  · replace h := h.1 hc
    refine x_aload_n C hl dX11_close_45 rfl ?_
    refine lv_iconst (v := (0 : Int32)) hx hb dX11_close_46 (by decide) ?_
    have t1 := h.1
    replace h := h.2
    have b3 := h.1
    replace h := h.2
    refine x_putI C hW hS (t := 9) (k := 4) t1 kl_9 (by decide) fl_X11_160 rfl rfl (bz_n b3) (bz_f b3) dX11_close_47 (fun H locs hW hS => ?_)
    obtain ⟨s2, e_s2⟩ : ∃ z : Mem, z = (sI σ l3 4 (0 : Int32)) := ⟨_, rfl⟩
    replace h := h s2 e_s2
    replace hW : Wd G D tc b0 s2 H := by rw [e_s2]; exact hW
    exact t_X11_close_50 C hr hS hW (hl.keep [false, false, false, false, true] rfl) h
set_option maxRecDepth 20000 in
set_option maxHeartbeats 4000000 in
theorem t_X11_close_0 {p : Program} {l : Launch} {e : Env} {s : State} {m : MethodId} {args : Array Value} {below : List Frame} {meth : Method} {c : Code} {H : Heap} {locs : List Loc} {D : va_G} {tc : Nat → ClassId} {b0 : Nat} {ls : Array Slot} {G : Lay} {Qx : Int32 → Mem → Prop} {l0 : Nat} {l1 : Int32} {l2 : Int32}  {σ : Mem} (C : Cx p s m args meth c cX11_close RX11 5 D tc b0) (hr : meth.sig.returnType = (some FieldType.int)) (hS : va_S (AA b0) s.heap H locs) (hW : Wd G D tc b0 σ H) (hl : hL b0 ls 5 [some (.inr (.inr l0)), some (.inl l1), some (.inl l2), none, none]) (h : X_X11_close_0 G Qx l0 l1 l2  σ) : W p l e rm_X11_close s m args below meth c H locs 0 0 (MQ below (va_Qi Qx (fun u t => Pw G D tc b0 u t) (AA b0)) args s 0 0 (AA b0)) (F0 m 0 ls []) := by
  have hx := C.1
  have hb := C.2.1
  unfold X_X11_close_0 at h
  refine x_aload_n C hl dX11_close_0 rfl ?_
  refine x_iload_n C hl dX11_close_1 rfl ?_
  have t1 := h.1
  replace h := h.2
  refine y_r (x_run (As := [.int l1]) C hW hS (T_X11_openUnit l l0 l1 σ _ h) t1 kl_11 (CW.of yv_X11_openUnit ml_X11_167) ⟨rfl, rfl, ⟨by decide, by decide⟩, by decide, by decide⟩ rfl hl.1 rfl (by decide) dX11_close_2) hS (fun w3 s2 H locs h hW hS => ?_)
  refine x_astore_n C hl dX11_close_5 (by decide) rfl (fun ls hl => ?_)
  refine x_aload_n C hl dX11_close_6 rfl ?_
  refine x_ifnull C dX11_close_7 (tgt := 19) rfl (fun hc => ?_) (fun hc => ?_)
  · replace h := h.1 hc
    exact t_X11_close_19 C hr hS hW (hl.keep [false, false, false, false, false] rfl) h
  · replace h := h.2 hc
    refine x_iload_n C hl dX11_close_10 rfl ?_
    refine lv_if_lt hx hb dX11_close_11 (tgt := 19) rfl (fun hc => ?_) (fun hc => ?_)
    · replace h := h.1 hc
      exact t_X11_close_19 C hr hS hW (hl.keep [false, false, false, false, false] rfl) h
    · replace h := h.2 hc
      refine x_iload_n C hl dX11_close_14 rfl ?_
      refine lv_iconst (v := (1 : Int32)) hx hb dX11_close_15 (by decide) ?_
      refine lv_icmp_le hx hb dX11_close_16 (tgt := 21) rfl (fun hc => ?_) (fun hc => ?_)
      · replace h := h.1 hc
        refine x_iload_n C hl dX11_close_21 rfl ?_
        refine lv_iconst (v := (1 : Int32)) hx hb dX11_close_22 (by decide) ?_
        refine lv_icmp_ne hx hb dX11_close_23 (tgt := 37) rfl (fun hc => ?_) (fun hc => ?_)
        · replace h := h.2 hc
          refine lv_iconst (v := (0 : Int32)) hx hb dX11_close_37 (by decide) ?_
          exact t_X11_close_38 C hr hS hW (hl.keep [false, false, false, true, false] rfl) h
        · replace h := h.1 hc
          refine x_aload_n C hl dX11_close_26 rfl ?_
          refine x_get C hW (t := 11) (k := 10) t1 kl_11 (by decide) fl_X11_79 (v := rv b0 (mR s2 l0 10)) rfl dX11_close_27 ?_
          refine x_aload_n C hl dX11_close_30 rfl ?_
          have t4 := h.1
          replace h := h.2
          refine y_i (x_run (As := [rv b0 w3]) C hW hS (T_X10_perform l (mR s2 l0 10) w3 s2 _ h) t4 kl_10 (CW.of yv_X10_perform ml_X11_171) ⟨rfl, rfl, ⟨by decide, by decide⟩, by decide, by decide⟩ rfl hl.1 rfl (by decide) dX11_close_31) hS (fun w6 s5 H locs h hW hS => ?_)
          refine lv_goto hx hb dX11_close_34 (tgt := 38) rfl ?_
          exact t_X11_close_38 C hr hS hW (hl.keep [false, false, false, true, false] rfl) h
      · replace h := h.2 hc
        exact t_X11_close_19 C hr hS hW (hl.keep [false, false, false, false, false] rfl) h
theorem T_X11_close (l : Launch) {G : Lay} {D : va_G} {tc : Nat → ClassId} {b0 : Nat} (l0 : Nat) (l1 : Int32) (l2 : Int32) (σ : Mem) (Qx : Int32 → Mem → Prop) (h : X_X11_close G Qx l0 l1 l2 σ) : MI l yX11_close cX11_close 5 ((some FieldType.int)) rm_X11_close G D tc b0 [rv b0 l0, .int l1, .int l2] σ Qx :=
  x_entry (y := yX11_close) [.inr (.inr l0), .inl l1, .inl l2] 2 (by decide) (Nat.le_of_ble_eq_true rfl) (fun p e s m args below meth c ls C hr hW hl => t_X11_close_0 C hr va_S.rf hW (hl.keep [true, true, true, false, false] rfl) h)
/-! X11_flush -/
set_option maxRecDepth 20000 in
set_option maxHeartbeats 4000000 in
theorem t_X11_flush_22 {p : Program} {l : Launch} {e : Env} {s : State} {m : MethodId} {args : Array Value} {below : List Frame} {meth : Method} {c : Code} {H : Heap} {locs : List Loc} {D : va_G} {tc : Nat → ClassId} {b0 : Nat} {ls : Array Slot} {G : Lay} {Qx : Int32 → Mem → Prop}  {k0 : Int32} {σ : Mem} (C : Cx p s m args meth c cX11_flush RX11 3 D tc b0) (hr : meth.sig.returnType = (some FieldType.int)) (hS : va_S (AA b0) s.heap H locs) (hW : Wd G D tc b0 σ H) (hl : hL b0 ls 3 [none, none, none]) (h : X_X11_flush_22 G Qx  k0 σ) : W p l e rm_X11_flush s m args below meth c H locs 0 0 (MQ below (va_Qi Qx (fun u t => Pw G D tc b0 u t) (AA b0)) args s 0 0 (AA b0)) (F0 m 22 ls [.int k0]) := by
  have hx := C.1
  have hb := C.2.1
  unfold X_X11_flush_22 at h
  exact r_i C hr hW hS h dX11_flush_22
set_option maxRecDepth 20000 in
set_option maxHeartbeats 4000000 in
theorem t_X11_flush_0 {p : Program} {l : Launch} {e : Env} {s : State} {m : MethodId} {args : Array Value} {below : List Frame} {meth : Method} {c : Code} {H : Heap} {locs : List Loc} {D : va_G} {tc : Nat → ClassId} {b0 : Nat} {ls : Array Slot} {G : Lay} {Qx : Int32 → Mem → Prop} {l0 : Nat} {l1 : Int32}  {σ : Mem} (C : Cx p s m args meth c cX11_flush RX11 3 D tc b0) (hr : meth.sig.returnType = (some FieldType.int)) (hS : va_S (AA b0) s.heap H locs) (hW : Wd G D tc b0 σ H) (hl : hL b0 ls 3 [some (.inr (.inr l0)), some (.inl l1), none]) (h : X_X11_flush_0 G Qx l0 l1  σ) : W p l e rm_X11_flush s m args below meth c H locs 0 0 (MQ below (va_Qi Qx (fun u t => Pw G D tc b0 u t) (AA b0)) args s 0 0 (AA b0)) (F0 m 0 ls []) := by
  have hx := C.1
  have hb := C.2.1
  unfold X_X11_flush_0 at h
  refine x_aload_n C hl dX11_flush_0 rfl ?_
  refine x_iload_n C hl dX11_flush_1 rfl ?_
  have t1 := h.1
  replace h := h.2
  refine y_r (x_run (As := [.int l1]) C hW hS (T_X11_openUnit l l0 l1 σ _ h) t1 kl_11 (CW.of yv_X11_openUnit ml_X11_167) ⟨rfl, rfl, ⟨by decide, by decide⟩, by decide, by decide⟩ rfl hl.1 rfl (by decide) dX11_flush_2) hS (fun w3 s2 H locs h hW hS => ?_)
  refine x_astore_n C hl dX11_flush_5 (by decide) rfl (fun ls hl => ?_)
  refine x_aload_n C hl dX11_flush_6 rfl ?_
  refine x_ifnonnull C dX11_flush_7 (tgt := 14) rfl (fun hc => ?_) (fun hc => ?_)
  · replace h := h.2 hc
    refine x_aload_n C hl dX11_flush_14 rfl ?_
    refine x_get C hW (t := 11) (k := 10) t1 kl_11 (by decide) fl_X11_79 (v := rv b0 (mR s2 l0 10)) rfl dX11_flush_15 ?_
    refine x_aload_n C hl dX11_flush_18 rfl ?_
    have t4 := h.1
    replace h := h.2
    refine y_i (x_run (As := [rv b0 w3]) C hW hS (T_X10_perform l (mR s2 l0 10) w3 s2 _ h) t4 kl_10 (CW.of yv_X10_perform ml_X11_171) ⟨rfl, rfl, ⟨by decide, by decide⟩, by decide, by decide⟩ rfl hl.1 rfl (by decide) dX11_flush_19) hS (fun w6 s5 H locs h hW hS => ?_)
    exact t_X11_flush_22 C hr hS hW (hl.keep [false, false, false] rfl) h
  · replace h := h.1 hc
    refine lv_iconst (v := (-1 : Int32)) hx hb dX11_flush_10 (by decide) ?_
    refine lv_goto hx hb dX11_flush_11 (tgt := 22) rfl ?_
    exact t_X11_flush_22 C hr hS hW (hl.keep [false, false, false] rfl) h
theorem T_X11_flush (l : Launch) {G : Lay} {D : va_G} {tc : Nat → ClassId} {b0 : Nat} (l0 : Nat) (l1 : Int32) (σ : Mem) (Qx : Int32 → Mem → Prop) (h : X_X11_flush G Qx l0 l1 σ) : MI l yX11_flush cX11_flush 3 ((some FieldType.int)) rm_X11_flush G D tc b0 [rv b0 l0, .int l1] σ Qx :=
  x_entry (y := yX11_flush) [.inr (.inr l0), .inl l1] 1 (by decide) (Nat.le_of_ble_eq_true rfl) (fun p e s m args below meth c ls C hr hW hl => t_X11_flush_0 C hr va_S.rf hW (hl.keep [true, true, false] rfl) h)
/-! X11_ask -/
set_option maxRecDepth 20000 in
set_option maxHeartbeats 4000000 in
theorem t_X11_ask_0 {p : Program} {l : Launch} {e : Env} {s : State} {m : MethodId} {args : Array Value} {below : List Frame} {meth : Method} {c : Code} {H : Heap} {locs : List Loc} {D : va_G} {tc : Nat → ClassId} {b0 : Nat} {ls : Array Slot} {G : Lay} {Qx : Int32 → Mem → Prop} {l0 : Nat} {l1 : Int32}  {σ : Mem} (C : Cx p s m args meth c cX11_ask RX11 4 D tc b0) (hr : meth.sig.returnType = (some FieldType.int)) (hS : va_S (AA b0) s.heap H locs) (hW : Wd G D tc b0 σ H) (hl : hL b0 ls 4 [some (.inr (.inr l0)), some (.inl l1), none, none]) (h : X_X11_ask_0 G Qx l0 l1  σ) : W p l e rm_X11_ask s m args below meth c H locs 0 0 (MQ below (va_Qi Qx (fun u t => Pw G D tc b0 u t) (AA b0)) args s 0 0 (AA b0)) (F0 m 0 ls []) := by
  have hx := C.1
  have hb := C.2.1
  unfold X_X11_ask_0 at h
  refine x_aload_n C hl dX11_ask_0 rfl ?_
  refine x_iload_n C hl dX11_ask_1 rfl ?_
  have t1 := h.1
  replace h := h.2
  refine y_r (x_run (As := [.int l1]) C hW hS (T_X11_openUnit l l0 l1 σ _ h) t1 kl_11 (CW.of yv_X11_openUnit ml_X11_167) ⟨rfl, rfl, ⟨by decide, by decide⟩, by decide, by decide⟩ rfl hl.1 rfl (by decide) dX11_ask_2) hS (fun w3 s2 H locs h hW hS => ?_)
  refine x_astore_n C hl dX11_ask_5 (by decide) rfl (fun ls hl => ?_)
  refine x_aload_n C hl dX11_ask_6 rfl ?_
  refine x_ifnonnull C dX11_ask_7 (tgt := 12) rfl (fun hc => ?_) (fun hc => ?_)
  · replace h := h.2 hc
    refine x_aload_n C hl dX11_ask_12 rfl ?_
    refine x_get C hW (t := 11) (k := 2) t1 kl_11 (by decide) fl_X11_16 (v := rv b0 (mR s2 l0 2)) rfl dX11_ask_13 ?_
    refine x_aload_n C hl dX11_ask_16 rfl ?_
    refine x_get C hW (t := 11) (k := 0) t1 kl_11 (by decide) fl_X11_9 (v := rv b0 (mR s2 l0 0)) rfl dX11_ask_17 ?_
    refine x_aload_n C hl dX11_ask_20 rfl ?_
    refine x_get C hW (t := 11) (k := 1) t1 kl_11 (by decide) fl_X11_86 (v := .int (mI s2 l0 1)) rfl dX11_ask_21 ?_
    have t4 := h.1
    replace h := h.2
    refine y_v (x_run (As := [rv b0 (mR s2 l0 0), .int (mI s2 l0 1)]) C hW hS (T_X8_scan l (mR s2 l0 2) (mR s2 l0 0) (mI s2 l0 1) s2 _ h) t4 kl_8 (CW.of yv_X8_scan ml_X11_94) ⟨rfl, rfl, ⟨by decide, by decide⟩, by decide, by decide⟩ rfl hl.1 rfl (by decide) dX11_ask_24) hS (fun s5 H locs h hW hS => ?_)
    refine x_aload_n C hl dX11_ask_27 rfl ?_
    refine lv_iconst (v := (0 : Int32)) hx hb dX11_ask_28 (by decide) ?_
    refine x_putI C hW hS (t := 11) (k := 1) t1 kl_11 (by decide) fl_X11_86 rfl rfl rfl rfl dX11_ask_29 (fun H locs hW hS => ?_)
    obtain ⟨s6, e_s6⟩ : ∃ z : Mem, z = (sI s5 l0 1 (0 : Int32)) := ⟨_, rfl⟩
    replace h := h s6 e_s6
    replace hW : Wd G D tc b0 s6 H := by rw [e_s6]; exact hW
    refine x_aload_n C hl dX11_ask_32 rfl ?_
    refine x_get C hW (t := 11) (k := 4) t1 kl_11 (by decide) fl_X11_41 (v := rv b0 (mR s6 l0 4)) rfl dX11_ask_33 ?_
    refine x_aload_n C hl dX11_ask_36 rfl ?_
    refine x_get C hW (t := 11) (k := 6) t1 kl_11 (by decide) fl_X11_53 (v := rv b0 (mR s6 l0 6)) rfl dX11_ask_37 ?_
    have t7 := h.1
    replace h := h.2
    refine x_get C hW (t := 5) (k := 0) t7 kl_5 (by decide) fl_X11_102 (v := rv b0 (mR s6 (mR s6 l0 6) 0)) rfl dX11_ask_40 ?_
    have t8 := h.1
    replace h := h.2
    refine y_i (x_run (As := [rv b0 (mR s6 (mR s6 l0 6) 0)]) C hW hS (T_X4_readQuestion l (mR s6 l0 4) (mR s6 (mR s6 l0 6) 0) s6 _ h) t8 kl_4 (CW.of yv_X4_readQuestion ml_X11_300) ⟨rfl, rfl, ⟨by decide, by decide⟩, by decide, by decide⟩ rfl hl.1 rfl (by decide) dX11_ask_43) hS (fun w10 s9 H locs h hW hS => ?_)
    refine lv_if_ne hx hb dX11_ask_46 (tgt := 51) rfl (fun hc => ?_) (fun hc => ?_)
    · replace h := h.2 hc
      refine x_aload_n C hl dX11_ask_51 rfl ?_
      refine x_get C hW (t := 11) (k := 10) t1 kl_11 (by decide) fl_X11_79 (v := rv b0 (mR s9 l0 10)) rfl dX11_ask_52 ?_
      refine x_aload_n C hl dX11_ask_55 rfl ?_
      have t11 := h.1
      replace h := h.2
      refine y_i (x_run (As := [rv b0 w3]) C hW hS (T_X10_perform l (mR s9 l0 10) w3 s9 _ h) t11 kl_10 (CW.of yv_X10_perform ml_X11_171) ⟨rfl, rfl, ⟨by decide, by decide⟩, by decide, by decide⟩ rfl hl.1 rfl (by decide) dX11_ask_56) hS (fun w13 s12 H locs h hW hS => ?_)
      refine x_istore_n C hl dX11_ask_59 (by decide) rfl (fun ls hl => ?_)
      refine x_iload_n C hl dX11_ask_60 rfl ?_
      refine lv_if_eq hx hb dX11_ask_61 (tgt := 69) rfl (fun hc => ?_) (fun hc => ?_)
      · replace h := h.1 hc
        refine x_aload_n C hl dX11_ask_69 rfl ?_
        refine y_v (x_run (As := []) C hW hS (T_X11_tellRows l l0 s12 _ h) t1 kl_11 (CW.of yv_X11_tellRows ml_X11_303) ⟨rfl, rfl, ⟨by decide, by decide⟩, by decide, by decide⟩ rfl hl.1 rfl (by decide) dX11_ask_70) hS (fun s14 H locs h hW hS => ?_)
        refine x_aload_n C hl dX11_ask_73 rfl ?_
        refine x_get C hW (t := 11) (k := 12) t1 kl_11 (by decide) fl_X11_306 (v := .int (mI s14 l0 12)) rfl dX11_ask_74 ?_
        exact r_i C hr hW hS h dX11_ask_77
      · replace h := h.2 hc
        refine lv_bipush (v := (-10 : Int32)) hx hb dX11_ask_64 (by decide) ?_
        refine x_iload_n C hl dX11_ask_66 rfl ?_
        refine lv_isub hx hb dX11_ask_67 ?_
        exact r_i C hr hW hS h dX11_ask_68
    · replace h := h.1 hc
      refine lv_iconst (v := (-1 : Int32)) hx hb dX11_ask_49 (by decide) ?_
      exact r_i C hr hW hS h dX11_ask_50
  · replace h := h.1 hc
    refine lv_iconst (v := (-1 : Int32)) hx hb dX11_ask_10 (by decide) ?_
    exact r_i C hr hW hS h dX11_ask_11
theorem T_X11_ask (l : Launch) {G : Lay} {D : va_G} {tc : Nat → ClassId} {b0 : Nat} (l0 : Nat) (l1 : Int32) (σ : Mem) (Qx : Int32 → Mem → Prop) (h : X_X11_ask G Qx l0 l1 σ) : MI l yX11_ask cX11_ask 4 ((some FieldType.int)) rm_X11_ask G D tc b0 [rv b0 l0, .int l1] σ Qx :=
  x_entry (y := yX11_ask) [.inr (.inr l0), .inl l1] 2 (by decide) (Nat.le_of_ble_eq_true rfl) (fun p e s m args below meth c ls C hr hW hl => t_X11_ask_0 C hr va_S.rf hW (hl.keep [true, true, false, false] rfl) h)
