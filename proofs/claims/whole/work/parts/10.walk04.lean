/-! X10_hasMust -/
set_option maxRecDepth 20000 in
set_option maxHeartbeats 4000000 in
theorem t_X10_hasMust_53 {p : Program} {l : Launch} {e : Env} {s : State} {m : MethodId} {args : Array Value} {below : List Frame} {meth : Method} {c : Code} {H : Heap} {locs : List Loc} {D : va_G} {tc : Nat → ClassId} {b0 : Nat} {ls : Array Slot} {G : Lay} {Qx : Int32 → Mem → Prop} {l2 : Int32} {l3 : Nat} {l4 : Int32}  {K19 : Int32 × Mem → Prop} {σ : Mem} (C : Cx p s m args meth c cX10_hasMust RX10 5 D tc b0) (hr : meth.sig.returnType = (some FieldType.boolean)) (hK19 : ∀ (x4 : Int32) (σ : Mem) (H : Heap) (locs : List Loc) (ls : Array Slot), va_S (AA b0) s.heap H locs → Wd G D tc b0 σ H → hL b0 ls 5 [none, none, some (.inl l2), some (.inr (.inr l3)), some (.inl x4)] → K19 (x4, σ) → W p l e rm_X10_hasMust s m args below meth c H locs 0 0 (MQ below (va_Qi Qx (fun u t => Pw G D tc b0 u t) (AA b0)) args s 0 0 (AA b0)) (F0 m 19 ls [])) (hS : va_S (AA b0) s.heap H locs) (hW : Wd G D tc b0 σ H) (hl : hL b0 ls 5 [none, none, some (.inl l2), some (.inr (.inr l3)), some (.inl l4)]) (h : X_X10_hasMust_53 G Qx K19 l2 l3 l4  σ) : W p l e rm_X10_hasMust s m args below meth c H locs 0 0 (MQ below (va_Qi Qx (fun u t => Pw G D tc b0 u t) (AA b0)) args s 0 0 (AA b0)) (F0 m 53 ls []) := by
  have hx := C.1
  have hb := C.2.1
  unfold X_X10_hasMust_53 at h
  refine x_iinc C hl dX10_hasMust_53 rfl (v := (1 : Int32)) (by decide) (by decide) rfl (fun ls hl => ?_)
  refine lv_goto hx hb dX10_hasMust_56 (tgt := 19) rfl ?_
  exact hK19 _ _ _ _ _ hS hW (hl.keep [false, false, true, true, true] rfl) h
set_option maxRecDepth 20000 in
set_option maxHeartbeats 4000000 in
theorem t_X10_hasMust_19_n {p : Program} {l : Launch} {e : Env} {s : State} {m : MethodId} {args : Array Value} {below : List Frame} {meth : Method} {c : Code} {D : va_G} {tc : Nat → ClassId} {b0 : Nat} {G : Lay} {Qx : Int32 → Mem → Prop} {l2 : Int32} {l3 : Nat} (C : Cx p s m args meth c cX10_hasMust RX10 5 D tc b0) (hr : meth.sig.returnType = (some FieldType.boolean)) (n : Nat) : ∀ (l4 : Int32) (σ : Mem) (H : Heap) (locs : List Loc) (ls : Array Slot), va_S (AA b0) s.heap H locs → Wd G D tc b0 σ H → hL b0 ls 5 [none, none, some (.inl l2), some (.inr (.inr l3)), some (.inl l4)] → Lp (X_X10_hasMust_19_s G Qx l2 l3) n (l4, σ) → W p l e rm_X10_hasMust s m args below meth c H locs 0 0 (MQ below (va_Qi Qx (fun u t => Pw G D tc b0 u t) (AA b0)) args s 0 0 (AA b0)) (F0 m 19 ls []) := by
  have hx := C.1
  have hb := C.2.1
  induction n with
  | zero => intro l4 σ H locs ls hS hW hl h; exact False.elim h
  | succ n hK19 =>
    intro l4 σ H locs ls hS hW hl h
    replace h : X_X10_hasMust_19_s G Qx l2 l3 (Lp (X_X10_hasMust_19_s G Qx l2 l3) n) (l4, σ) := h
    unfold X_X10_hasMust_19_s at h
    refine x_iload C hl dX10_hasMust_19 rfl ?_
    refine x_aload_n C hl dX10_hasMust_21 rfl ?_
    have t1 := h.1
    replace h := h.2
    refine x_get C hW (t := 1) (k := 4) t1 kl_1 (by decide) fl_X10_167 (v := .int (mI σ l3 4)) rfl dX10_hasMust_22 ?_
    refine lv_icmp_ge hx hb dX10_hasMust_25 (tgt := 59) rfl (fun hc => ?_) (fun hc => ?_)
    · replace h := h.1 hc
      refine lv_iconst (v := (0 : Int32)) hx hb dX10_hasMust_59 (by decide) ?_
      exact r_z C hr hW hS h.1 h.2 dX10_hasMust_60
    · replace h := h.2 hc
      refine x_iload_n C hl dX10_hasMust_28 rfl ?_
      refine x_iload C hl dX10_hasMust_29 rfl ?_
      refine lv_ishr hx hb dX10_hasMust_31 ?_
      refine lv_iconst (v := (1 : Int32)) hx hb dX10_hasMust_32 (by decide) ?_
      refine lv_iand hx hb dX10_hasMust_33 ?_
      refine lv_if_eq hx hb dX10_hasMust_34 (tgt := 53) rfl (fun hc => ?_) (fun hc => ?_)
      · replace h := h.1 hc
        exact t_X10_hasMust_53 C hr hK19 hS hW (hl.keep [false, false, true, true, true] rfl) h
      · replace h := h.2 hc
        refine x_aload_n C hl dX10_hasMust_37 rfl ?_
        refine x_get C hW (t := 1) (k := 5) t1 kl_1 (by decide) fl_X10_172 (v := rv b0 (mR σ l3 5)) rfl dX10_hasMust_38 ?_
        refine x_iload C hl dX10_hasMust_41 rfl ?_
        have t2 := h.1
        replace h := h.2
        have v3 := h.1
        replace h := h.2
        refine x_aald C hW (t := 104) (t0 := 5) t2 (by decide) rfl v3 dX10_hasMust_43 ?_
        refine lv_iconst (v := (2 : Int32)) hx hb dX10_hasMust_44 (by decide) ?_
        have t4 := h.1
        replace h := h.2
        refine y_i (x_run (As := [.int (2 : Int32)]) C hW hS (T_X2_has l (mR σ (mR σ l3 5) l4.toNatClampNeg) (2 : Int32) σ _ h) t4 kl_2 (CW.of yv_X2_has ml_X10_194) ⟨rfl, rfl, ⟨by decide, by decide⟩, by decide, by decide⟩ rfl hl.1 rfl (by decide) dX10_hasMust_45) hS (fun w6 s5 H locs h hW hS => ?_)
        refine lv_if_eq hx hb dX10_hasMust_48 (tgt := 53) rfl (fun hc => ?_) (fun hc => ?_)
        · replace h := h.1 hc
          exact t_X10_hasMust_53 C hr hK19 hS hW (hl.keep [false, false, true, true, true] rfl) h
        · replace h := h.2 hc
          refine lv_iconst (v := (1 : Int32)) hx hb dX10_hasMust_51 (by decide) ?_
          exact r_z C hr hW hS h.1 h.2 dX10_hasMust_52
set_option maxRecDepth 20000 in
set_option maxHeartbeats 4000000 in
theorem t_X10_hasMust_19 {p : Program} {l : Launch} {e : Env} {s : State} {m : MethodId} {args : Array Value} {below : List Frame} {meth : Method} {c : Code} {H : Heap} {locs : List Loc} {D : va_G} {tc : Nat → ClassId} {b0 : Nat} {ls : Array Slot} {G : Lay} {Qx : Int32 → Mem → Prop} {l2 : Int32} {l3 : Nat} {l4 : Int32}  {σ : Mem} (C : Cx p s m args meth c cX10_hasMust RX10 5 D tc b0) (hr : meth.sig.returnType = (some FieldType.boolean)) (hS : va_S (AA b0) s.heap H locs) (hW : Wd G D tc b0 σ H) (hl : hL b0 ls 5 [none, none, some (.inl l2), some (.inr (.inr l3)), some (.inl l4)]) (h : X_X10_hasMust_19 G Qx l2 l3 l4 σ) : W p l e rm_X10_hasMust s m args below meth c H locs 0 0 (MQ below (va_Qi Qx (fun u t => Pw G D tc b0 u t) (AA b0)) args s 0 0 (AA b0)) (F0 m 19 ls []) := by
  obtain ⟨n, h⟩ := h
  exact t_X10_hasMust_19_n C hr n l4 σ H locs ls hS hW hl h
set_option maxRecDepth 20000 in
set_option maxHeartbeats 4000000 in
theorem t_X10_hasMust_0 {p : Program} {l : Launch} {e : Env} {s : State} {m : MethodId} {args : Array Value} {below : List Frame} {meth : Method} {c : Code} {H : Heap} {locs : List Loc} {D : va_G} {tc : Nat → ClassId} {b0 : Nat} {ls : Array Slot} {G : Lay} {Qx : Int32 → Mem → Prop} {l0 : Nat} {l1 : Nat} {l2 : Int32}  {σ : Mem} (C : Cx p s m args meth c cX10_hasMust RX10 5 D tc b0) (hr : meth.sig.returnType = (some FieldType.boolean)) (hS : va_S (AA b0) s.heap H locs) (hW : Wd G D tc b0 σ H) (hl : hL b0 ls 5 [some (.inr (.inr l0)), some (.inr (.inr l1)), some (.inl l2), none, none]) (h : X_X10_hasMust_0 G Qx l0 l1 l2  σ) : W p l e rm_X10_hasMust s m args below meth c H locs 0 0 (MQ below (va_Qi Qx (fun u t => Pw G D tc b0 u t) (AA b0)) args s 0 0 (AA b0)) (F0 m 0 ls []) := by
  have hx := C.1
  have hb := C.2.1
  unfold X_X10_hasMust_0 at h
  refine x_aload_n C hl dX10_hasMust_0 rfl ?_
  have t1 := h.1
  replace h := h.2
  refine x_get C hW (t := 10) (k := 0) t1 kl_10 (by decide) fl_X10_43 (v := rv b0 (mR σ l0 0)) rfl dX10_hasMust_1 ?_
  have t2 := h.1
  replace h := h.2
  refine x_get C hW (t := 5) (k := 0) t2 kl_5 (by decide) fl_X10_49 (v := rv b0 (mR σ (mR σ l0 0) 0)) rfl dX10_hasMust_4 ?_
  have t3 := h.1
  replace h := h.2
  refine x_get C hW (t := 6) (k := 1) t3 kl_6 (by decide) fl_X10_161 (v := rv b0 (mR σ (mR σ (mR σ l0 0) 0) 1)) rfl dX10_hasMust_7 ?_
  refine x_aload_n C hl dX10_hasMust_10 rfl ?_
  have t4 := h.1
  replace h := h.2
  refine x_get C hW (t := 7) (k := 4) t4 kl_7 (by decide) fl_X10_165 (v := .int (mI σ l1 4)) rfl dX10_hasMust_11 ?_
  have t5 := h.1
  replace h := h.2
  have v6 := h.1
  replace h := h.2
  refine x_aald C hW (t := 103) (t0 := 4) t5 (by decide) rfl v6 dX10_hasMust_14 ?_
  refine x_astore_n C hl dX10_hasMust_15 (by decide) rfl (fun ls hl => ?_)
  refine lv_iconst (v := (0 : Int32)) hx hb dX10_hasMust_16 (by decide) ?_
  refine x_istore C hl dX10_hasMust_17 (by decide) rfl (fun ls hl => ?_)
  exact t_X10_hasMust_19 C hr hS hW (hl.keep [false, false, true, true, true] rfl) h
theorem T_X10_hasMust (l : Launch) {G : Lay} {D : va_G} {tc : Nat → ClassId} {b0 : Nat} (l0 : Nat) (l1 : Nat) (l2 : Int32) (σ : Mem) (Qx : Int32 → Mem → Prop) (h : X_X10_hasMust G Qx l0 l1 l2 σ) : MI l yX10_hasMust cX10_hasMust 5 ((some FieldType.boolean)) rm_X10_hasMust G D tc b0 [rv b0 l0, rv b0 l1, .int l2] σ Qx :=
  x_entry (y := yX10_hasMust) [.inr (.inr l0), .inr (.inr l1), .inl l2] 2 (by decide) (Nat.le_of_ble_eq_true rfl) (fun p e s m args below meth c ls C hr hW hl => t_X10_hasMust_0 C hr va_S.rf hW (hl.keep [true, true, true, false, false] rfl) h)
/-! X10_nextInsert -/
set_option maxRecDepth 20000 in
set_option maxHeartbeats 4000000 in
theorem t_X10_nextInsert_80 {p : Program} {l : Launch} {e : Env} {s : State} {m : MethodId} {args : Array Value} {below : List Frame} {meth : Method} {c : Code} {H : Heap} {locs : List Loc} {D : va_G} {tc : Nat → ClassId} {b0 : Nat} {ls : Array Slot} {G : Lay} {Qx : Nat → Mem → Prop} {l0 : Nat} {l1 : Nat} {l2 : Nat} {l3 : Int32} {l4 : Int32}  {K7 : Nat × Int32 × Int32 × Mem → Prop} {σ : Mem} (C : Cx p s m args meth c cX10_nextInsert RX10 7 D tc b0) (hr : meth.sig.returnType = (some (FieldType.object "BeeRegister$Thing"))) (hK7 : ∀ (x2 : Nat) (x3 : Int32) (x4 : Int32) (σ : Mem) (H : Heap) (locs : List Loc) (ls : Array Slot), va_S (AA b0) s.heap H locs → Wd G D tc b0 σ H → hL b0 ls 7 [some (.inr (.inr l0)), some (.inr (.inr l1)), some (.inr (.inr x2)), some (.inl x3), some (.inl x4), none, none] → K7 (x2, x3, x4, σ) → W p l e rm_X10_nextInsert s m args below meth c H locs 0 0 (MQ below (va_Qq (fun o u => ∃ r, o = ro b0 r ∧ Qx r u) (fun u t => Pw G D tc b0 u t) (AA b0)) args s 0 0 (AA b0)) (F0 m 7 ls [])) (hS : va_S (AA b0) s.heap H locs) (hW : Wd G D tc b0 σ H) (hl : hL b0 ls 7 [some (.inr (.inr l0)), some (.inr (.inr l1)), some (.inr (.inr l2)), some (.inl l3), some (.inl l4), none, none]) (h : X_X10_nextInsert_80 G Qx K7 l0 l1 l2 l3 l4  σ) : W p l e rm_X10_nextInsert s m args below meth c H locs 0 0 (MQ below (va_Qq (fun o u => ∃ r, o = ro b0 r ∧ Qx r u) (fun u t => Pw G D tc b0 u t) (AA b0)) args s 0 0 (AA b0)) (F0 m 80 ls []) := by
  have hx := C.1
  have hb := C.2.1
  unfold X_X10_nextInsert_80 at h
  refine x_iinc C hl dX10_nextInsert_80 rfl (v := (1 : Int32)) (by decide) (by decide) rfl (fun ls hl => ?_)
  refine lv_goto hx hb dX10_nextInsert_83 (tgt := 7) rfl ?_
  exact hK7 _ _ _ _ _ _ _ hS hW (hl.keep [true, true, true, true, true, false, false] rfl) h
set_option maxRecDepth 20000 in
set_option maxHeartbeats 4000000 in
theorem t_X10_nextInsert_95 {p : Program} {l : Launch} {e : Env} {s : State} {m : MethodId} {args : Array Value} {below : List Frame} {meth : Method} {c : Code} {H : Heap} {locs : List Loc} {D : va_G} {tc : Nat → ClassId} {b0 : Nat} {ls : Array Slot} {G : Lay} {Qx : Nat → Mem → Prop} {l2 : Nat}  {σ : Mem} (C : Cx p s m args meth c cX10_nextInsert RX10 7 D tc b0) (hr : meth.sig.returnType = (some (FieldType.object "BeeRegister$Thing"))) (hS : va_S (AA b0) s.heap H locs) (hW : Wd G D tc b0 σ H) (hl : hL b0 ls 7 [none, none, some (.inr (.inr l2)), none, none, none, none]) (h : X_X10_nextInsert_95 G Qx l2  σ) : W p l e rm_X10_nextInsert s m args below meth c H locs 0 0 (MQ below (va_Qq (fun o u => ∃ r, o = ro b0 r ∧ Qx r u) (fun u t => Pw G D tc b0 u t) (AA b0)) args s 0 0 (AA b0)) (F0 m 95 ls []) := by
  have hx := C.1
  have hb := C.2.1
  unfold X_X10_nextInsert_95 at h
  refine x_aload_n C hl dX10_nextInsert_95 rfl ?_
  exact r_r C hr hW hS h dX10_nextInsert_96
set_option maxRecDepth 20000 in
set_option maxHeartbeats 4000000 in
theorem t_X10_nextInsert_7_n {p : Program} {l : Launch} {e : Env} {s : State} {m : MethodId} {args : Array Value} {below : List Frame} {meth : Method} {c : Code} {D : va_G} {tc : Nat → ClassId} {b0 : Nat} {G : Lay} {Qx : Nat → Mem → Prop} {l0 : Nat} {l1 : Nat} (C : Cx p s m args meth c cX10_nextInsert RX10 7 D tc b0) (hr : meth.sig.returnType = (some (FieldType.object "BeeRegister$Thing"))) (n : Nat) : ∀ (l2 : Nat) (l3 : Int32) (l4 : Int32) (σ : Mem) (H : Heap) (locs : List Loc) (ls : Array Slot), va_S (AA b0) s.heap H locs → Wd G D tc b0 σ H → hL b0 ls 7 [some (.inr (.inr l0)), some (.inr (.inr l1)), some (.inr (.inr l2)), some (.inl l3), some (.inl l4), none, none] → Lp (X_X10_nextInsert_7_s G Qx l0 l1) n (l2, l3, l4, σ) → W p l e rm_X10_nextInsert s m args below meth c H locs 0 0 (MQ below (va_Qq (fun o u => ∃ r, o = ro b0 r ∧ Qx r u) (fun u t => Pw G D tc b0 u t) (AA b0)) args s 0 0 (AA b0)) (F0 m 7 ls []) := by
  have hx := C.1
  have hb := C.2.1
  induction n with
  | zero => intro l2 l3 l4 σ H locs ls hS hW hl h; exact False.elim h
  | succ n hK7 =>
    intro l2 l3 l4 σ H locs ls hS hW hl h
    replace h : X_X10_nextInsert_7_s G Qx l0 l1 (Lp (X_X10_nextInsert_7_s G Qx l0 l1) n) (l2, l3, l4, σ) := h
    unfold X_X10_nextInsert_7_s at h
    refine x_iload C hl dX10_nextInsert_7 rfl ?_
    refine x_aload_n C hl dX10_nextInsert_9 rfl ?_
    have t1 := h.1
    replace h := h.2
    refine x_get C hW (t := 10) (k := 3) t1 kl_10 (by decide) fl_X10_100 (v := .int (mI σ l0 3)) rfl dX10_nextInsert_10 ?_
    refine lv_icmp_ge hx hb dX10_nextInsert_13 (tgt := 86) rfl (fun hc => ?_) (fun hc => ?_)
    · replace h := h.1 hc
      refine x_aload_n C hl dX10_nextInsert_86 rfl ?_
      refine x_ifnull C dX10_nextInsert_87 (tgt := 95) rfl (fun hc => ?_) (fun hc => ?_)
      · replace h := h.1 hc
        exact t_X10_nextInsert_95 C hr hS hW (hl.keep [false, false, true, false, false, false, false] rfl) h
      · replace h := h.2 hc
        refine x_aload_n C hl dX10_nextInsert_90 rfl ?_
        refine x_iload_n C hl dX10_nextInsert_91 rfl ?_
        have t2 := h.1
        replace h := h.2
        refine x_putI C hW hS (t := 7) (k := 10) t2 kl_7 (by decide) fl_X10_112 rfl rfl rfl rfl dX10_nextInsert_92 (fun H locs hW hS => ?_)
        obtain ⟨s3, e_s3⟩ : ∃ z : Mem, z = (sI σ l2 10 l3) := ⟨_, rfl⟩
        replace h := h s3 e_s3
        replace hW : Wd G D tc b0 s3 H := by rw [e_s3]; exact hW
        exact t_X10_nextInsert_95 C hr hS hW (hl.keep [false, false, true, false, false, false, false] rfl) h
    · replace h := h.2 hc
      refine x_aload_n C hl dX10_nextInsert_16 rfl ?_
      refine x_get C hW (t := 10) (k := 2) t1 kl_10 (by decide) fl_X10_11 (v := rv b0 (mR σ l0 2)) rfl dX10_nextInsert_17 ?_
      refine x_iload C hl dX10_nextInsert_20 rfl ?_
      have t4 := h.1
      replace h := h.2
      have v5 := h.1
      replace h := h.2
      refine x_aald C hW (t := 105) (t0 := 6) t4 (by decide) rfl v5 dX10_nextInsert_22 ?_
      refine x_astore C hl dX10_nextInsert_23 (by decide) rfl (fun ls hl => ?_)
      refine x_aload C hl dX10_nextInsert_25 rfl ?_
      have t6 := h.1
      replace h := h.2
      refine x_get C hW (t := 7) (k := 1) t6 kl_7 (by decide) fl_X10_118 (v := .int (mI σ (mR σ (mR σ l0 2) l4.toNatClampNeg) 1)) rfl dX10_nextInsert_27 ?_
      refine lv_iconst (v := (2 : Int32)) hx hb dX10_nextInsert_30 (by decide) ?_
      refine lv_icmp_ne hx hb dX10_nextInsert_31 (tgt := 80) rfl (fun hc => ?_) (fun hc => ?_)
      · replace h := h.2 hc
        exact t_X10_nextInsert_80 C hr hK7 hS hW (hl.keep [true, true, true, true, true, false, false] rfl) h
      · replace h := h.1 hc
        refine x_aload C hl dX10_nextInsert_34 rfl ?_
        refine x_get C hW (t := 7) (k := 9) t6 kl_7 (by decide) fl_X10_109 (v := .int (mI σ (mR σ (mR σ l0 2) l4.toNatClampNeg) 9)) rfl dX10_nextInsert_36 ?_
        refine lv_if_ne hx hb dX10_nextInsert_39 (tgt := 80) rfl (fun hc => ?_) (fun hc => ?_)
        · replace h := h.2 hc
          exact t_X10_nextInsert_80 C hr hK7 hS hW (hl.keep [true, true, true, true, true, false, false] rfl) h
        · replace h := h.1 hc
          refine x_aload_n C hl dX10_nextInsert_42 rfl ?_
          refine x_aload_n C hl dX10_nextInsert_43 rfl ?_
          refine x_aload C hl dX10_nextInsert_44 rfl ?_
          refine y_i (x_run (As := [rv b0 l1, rv b0 (mR σ (mR σ l0 2) l4.toNatClampNeg)]) C hW hS (T_X10_earlyReferences l l0 l1 (mR σ (mR σ l0 2) l4.toNatClampNeg) σ _ h) t1 kl_10 (CW.of yv_X10_earlyReferences ml_X10_153) ⟨rfl, rfl, ⟨by decide, by decide⟩, by decide, by decide⟩ rfl hl.1 rfl (by decide) dX10_nextInsert_46) hS (fun w8 s7 H locs h hW hS => ?_)
          refine x_istore C hl dX10_nextInsert_49 (by decide) rfl (fun ls hl => ?_)
          refine x_iload C hl dX10_nextInsert_51 rfl ?_
          refine lv_if_ne hx hb dX10_nextInsert_53 (tgt := 59) rfl (fun hc => ?_) (fun hc => ?_)
          · replace h := h.2 hc
            refine x_aload_n C hl dX10_nextInsert_59 rfl ?_
            refine x_ifnonnull C dX10_nextInsert_60 (tgt := 80) rfl (fun hc => ?_) (fun hc => ?_)
            · replace h := h.2 hc
              exact t_X10_nextInsert_80 C hr hK7 hS hW (hl.keep [true, true, true, true, true, false, false] rfl) h
            · replace h := h.1 hc
              refine x_aload_n C hl dX10_nextInsert_63 rfl ?_
              refine x_aload C hl dX10_nextInsert_64 rfl ?_
              refine x_iload C hl dX10_nextInsert_66 rfl ?_
              refine y_i (x_run (As := [rv b0 (mR σ (mR σ l0 2) l4.toNatClampNeg), .int w8]) C hW hS (T_X10_hasMust l l0 (mR σ (mR σ l0 2) l4.toNatClampNeg) w8 s7 _ h) t1 kl_10 (CW.of yv_X10_hasMust ml_X10_157) ⟨rfl, rfl, ⟨by decide, by decide⟩, by decide, by decide⟩ rfl hl.1 rfl (by decide) dX10_nextInsert_68) hS (fun w10 s9 H locs h hW hS => ?_)
              refine lv_if_ne hx hb dX10_nextInsert_71 (tgt := 80) rfl (fun hc => ?_) (fun hc => ?_)
              · replace h := h.2 hc
                exact t_X10_nextInsert_80 C hr hK7 hS hW (hl.keep [true, true, true, true, true, false, false] rfl) h
              · replace h := h.1 hc
                refine x_aload C hl dX10_nextInsert_74 rfl ?_
                refine x_astore_n C hl dX10_nextInsert_76 (by decide) rfl (fun ls hl => ?_)
                refine x_iload C hl dX10_nextInsert_77 rfl ?_
                refine x_istore_n C hl dX10_nextInsert_79 (by decide) rfl (fun ls hl => ?_)
                exact t_X10_nextInsert_80 C hr hK7 hS hW (hl.keep [true, true, true, true, true, false, false] rfl) h
          · replace h := h.1 hc
            refine x_aload C hl dX10_nextInsert_56 rfl ?_
            exact r_r C hr hW hS h dX10_nextInsert_58
set_option maxRecDepth 20000 in
set_option maxHeartbeats 4000000 in
theorem t_X10_nextInsert_7 {p : Program} {l : Launch} {e : Env} {s : State} {m : MethodId} {args : Array Value} {below : List Frame} {meth : Method} {c : Code} {H : Heap} {locs : List Loc} {D : va_G} {tc : Nat → ClassId} {b0 : Nat} {ls : Array Slot} {G : Lay} {Qx : Nat → Mem → Prop} {l0 : Nat} {l1 : Nat} {l2 : Nat} {l3 : Int32} {l4 : Int32}  {σ : Mem} (C : Cx p s m args meth c cX10_nextInsert RX10 7 D tc b0) (hr : meth.sig.returnType = (some (FieldType.object "BeeRegister$Thing"))) (hS : va_S (AA b0) s.heap H locs) (hW : Wd G D tc b0 σ H) (hl : hL b0 ls 7 [some (.inr (.inr l0)), some (.inr (.inr l1)), some (.inr (.inr l2)), some (.inl l3), some (.inl l4), none, none]) (h : X_X10_nextInsert_7 G Qx l0 l1 l2 l3 l4 σ) : W p l e rm_X10_nextInsert s m args below meth c H locs 0 0 (MQ below (va_Qq (fun o u => ∃ r, o = ro b0 r ∧ Qx r u) (fun u t => Pw G D tc b0 u t) (AA b0)) args s 0 0 (AA b0)) (F0 m 7 ls []) := by
  obtain ⟨n, h⟩ := h
  exact t_X10_nextInsert_7_n C hr n l2 l3 l4 σ H locs ls hS hW hl h
set_option maxRecDepth 20000 in
set_option maxHeartbeats 4000000 in
theorem t_X10_nextInsert_0 {p : Program} {l : Launch} {e : Env} {s : State} {m : MethodId} {args : Array Value} {below : List Frame} {meth : Method} {c : Code} {H : Heap} {locs : List Loc} {D : va_G} {tc : Nat → ClassId} {b0 : Nat} {ls : Array Slot} {G : Lay} {Qx : Nat → Mem → Prop} {l0 : Nat} {l1 : Nat}  {σ : Mem} (C : Cx p s m args meth c cX10_nextInsert RX10 7 D tc b0) (hr : meth.sig.returnType = (some (FieldType.object "BeeRegister$Thing"))) (hS : va_S (AA b0) s.heap H locs) (hW : Wd G D tc b0 σ H) (hl : hL b0 ls 7 [some (.inr (.inr l0)), some (.inr (.inr l1)), none, none, none, none, none]) (h : X_X10_nextInsert_0 G Qx l0 l1  σ) : W p l e rm_X10_nextInsert s m args below meth c H locs 0 0 (MQ below (va_Qq (fun o u => ∃ r, o = ro b0 r ∧ Qx r u) (fun u t => Pw G D tc b0 u t) (AA b0)) args s 0 0 (AA b0)) (F0 m 0 ls []) := by
  have hx := C.1
  have hb := C.2.1
  unfold X_X10_nextInsert_0 at h
  refine x_null C dX10_nextInsert_0 ?_
  refine x_astore_n C hl dX10_nextInsert_1 (by decide) rfl (fun ls hl => ?_)
  refine lv_iconst (v := (0 : Int32)) hx hb dX10_nextInsert_2 (by decide) ?_
  refine x_istore_n C hl dX10_nextInsert_3 (by decide) rfl (fun ls hl => ?_)
  refine lv_iconst (v := (0 : Int32)) hx hb dX10_nextInsert_4 (by decide) ?_
  refine x_istore C hl dX10_nextInsert_5 (by decide) rfl (fun ls hl => ?_)
  exact t_X10_nextInsert_7 C hr hS hW (hl.keep [true, true, true, true, true, false, false] rfl) h
theorem T_X10_nextInsert (l : Launch) {G : Lay} {D : va_G} {tc : Nat → ClassId} {b0 : Nat} (l0 : Nat) (l1 : Nat) (σ : Mem) (Qx : Nat → Mem → Prop) (h : X_X10_nextInsert G Qx l0 l1 σ) : MR l yX10_nextInsert cX10_nextInsert 7 ((some (FieldType.object "BeeRegister$Thing"))) rm_X10_nextInsert G D tc b0 [rv b0 l0, rv b0 l1] σ Qx :=
  x_entry (y := yX10_nextInsert) [.inr (.inr l0), .inr (.inr l1)] 5 (by decide) (Nat.le_of_ble_eq_true rfl) (fun p e s m args below meth c ls C hr hW hl => t_X10_nextInsert_0 C hr va_S.rf hW (hl.keep [true, true, false, false, false, false, false] rfl) h)
/-! X10_firstUnwritten -/
set_option maxRecDepth 20000 in
set_option maxHeartbeats 4000000 in
theorem t_X10_firstUnwritten_42 {p : Program} {l : Launch} {e : Env} {s : State} {m : MethodId} {args : Array Value} {below : List Frame} {meth : Method} {c : Code} {H : Heap} {locs : List Loc} {D : va_G} {tc : Nat → ClassId} {b0 : Nat} {ls : Array Slot} {G : Lay} {Qx : Nat → Mem → Prop} {l0 : Nat} {l1 : Int32} {l2 : Int32}  {K2 : Int32 × Mem → Prop} {σ : Mem} (C : Cx p s m args meth c cX10_firstUnwritten RX10 3 D tc b0) (hr : meth.sig.returnType = (some (FieldType.object "BeeRegister$Thing"))) (hK2 : ∀ (x2 : Int32) (σ : Mem) (H : Heap) (locs : List Loc) (ls : Array Slot), va_S (AA b0) s.heap H locs → Wd G D tc b0 σ H → hL b0 ls 3 [some (.inr (.inr l0)), some (.inl l1), some (.inl x2)] → K2 (x2, σ) → W p l e rm_X10_firstUnwritten s m args below meth c H locs 0 0 (MQ below (va_Qq (fun o u => ∃ r, o = ro b0 r ∧ Qx r u) (fun u t => Pw G D tc b0 u t) (AA b0)) args s 0 0 (AA b0)) (F0 m 2 ls [])) (hS : va_S (AA b0) s.heap H locs) (hW : Wd G D tc b0 σ H) (hl : hL b0 ls 3 [some (.inr (.inr l0)), some (.inl l1), some (.inl l2)]) (h : X_X10_firstUnwritten_42 G Qx K2 l0 l1 l2  σ) : W p l e rm_X10_firstUnwritten s m args below meth c H locs 0 0 (MQ below (va_Qq (fun o u => ∃ r, o = ro b0 r ∧ Qx r u) (fun u t => Pw G D tc b0 u t) (AA b0)) args s 0 0 (AA b0)) (F0 m 42 ls []) := by
  have hx := C.1
  have hb := C.2.1
  unfold X_X10_firstUnwritten_42 at h
  refine x_iinc C hl dX10_firstUnwritten_42 rfl (v := (1 : Int32)) (by decide) (by decide) rfl (fun ls hl => ?_)
  refine lv_goto hx hb dX10_firstUnwritten_45 (tgt := 2) rfl ?_
  exact hK2 _ _ _ _ _ hS hW (hl.keep [true, true, true] rfl) h
set_option maxRecDepth 20000 in
set_option maxHeartbeats 4000000 in
theorem t_X10_firstUnwritten_2_n {p : Program} {l : Launch} {e : Env} {s : State} {m : MethodId} {args : Array Value} {below : List Frame} {meth : Method} {c : Code} {D : va_G} {tc : Nat → ClassId} {b0 : Nat} {G : Lay} {Qx : Nat → Mem → Prop} {l0 : Nat} {l1 : Int32} (C : Cx p s m args meth c cX10_firstUnwritten RX10 3 D tc b0) (hr : meth.sig.returnType = (some (FieldType.object "BeeRegister$Thing"))) (n : Nat) : ∀ (l2 : Int32) (σ : Mem) (H : Heap) (locs : List Loc) (ls : Array Slot), va_S (AA b0) s.heap H locs → Wd G D tc b0 σ H → hL b0 ls 3 [some (.inr (.inr l0)), some (.inl l1), some (.inl l2)] → Lp (X_X10_firstUnwritten_2_s G Qx l0 l1) n (l2, σ) → W p l e rm_X10_firstUnwritten s m args below meth c H locs 0 0 (MQ below (va_Qq (fun o u => ∃ r, o = ro b0 r ∧ Qx r u) (fun u t => Pw G D tc b0 u t) (AA b0)) args s 0 0 (AA b0)) (F0 m 2 ls []) := by
  have hx := C.1
  have hb := C.2.1
  induction n with
  | zero => intro l2 σ H locs ls hS hW hl h; exact False.elim h
  | succ n hK2 =>
    intro l2 σ H locs ls hS hW hl h
    replace h : X_X10_firstUnwritten_2_s G Qx l0 l1 (Lp (X_X10_firstUnwritten_2_s G Qx l0 l1) n) (l2, σ) := h
    unfold X_X10_firstUnwritten_2_s at h
    refine x_iload_n C hl dX10_firstUnwritten_2 rfl ?_
    refine x_aload_n C hl dX10_firstUnwritten_3 rfl ?_
    have t1 := h.1
    replace h := h.2
    refine x_get C hW (t := 10) (k := 3) t1 kl_10 (by decide) fl_X10_100 (v := .int (mI σ l0 3)) rfl dX10_firstUnwritten_4 ?_
    refine lv_icmp_ge hx hb dX10_firstUnwritten_7 (tgt := 48) rfl (fun hc => ?_) (fun hc => ?_)
    · replace h := h.1 hc
      refine x_null C dX10_firstUnwritten_48 ?_
      exact r_r C hr hW hS h dX10_firstUnwritten_49
    · replace h := h.2 hc
      refine x_aload_n C hl dX10_firstUnwritten_10 rfl ?_
      refine x_get C hW (t := 10) (k := 2) t1 kl_10 (by decide) fl_X10_11 (v := rv b0 (mR σ l0 2)) rfl dX10_firstUnwritten_11 ?_
      refine x_iload_n C hl dX10_firstUnwritten_14 rfl ?_
      have t2 := h.1
      replace h := h.2
      have v3 := h.1
      replace h := h.2
      refine x_aald C hW (t := 105) (t0 := 6) t2 (by decide) rfl v3 dX10_firstUnwritten_15 ?_
      have t4 := h.1
      replace h := h.2
      refine x_get C hW (t := 7) (k := 1) t4 kl_7 (by decide) fl_X10_118 (v := .int (mI σ (mR σ (mR σ l0 2) l2.toNatClampNeg) 1)) rfl dX10_firstUnwritten_16 ?_
      refine x_iload_n C hl dX10_firstUnwritten_19 rfl ?_
      refine lv_icmp_ne hx hb dX10_firstUnwritten_20 (tgt := 42) rfl (fun hc => ?_) (fun hc => ?_)
      · replace h := h.2 hc
        exact t_X10_firstUnwritten_42 C hr hK2 hS hW (hl.keep [true, true, true] rfl) h
      · replace h := h.1 hc
        refine x_aload_n C hl dX10_firstUnwritten_23 rfl ?_
        refine x_get C hW (t := 10) (k := 2) t1 kl_10 (by decide) fl_X10_11 (v := rv b0 (mR σ l0 2)) rfl dX10_firstUnwritten_24 ?_
        refine x_iload_n C hl dX10_firstUnwritten_27 rfl ?_
        refine x_aald C hW (t := 105) (t0 := 6) t2 (by decide) rfl v3 dX10_firstUnwritten_28 ?_
        refine x_get C hW (t := 7) (k := 9) t4 kl_7 (by decide) fl_X10_109 (v := .int (mI σ (mR σ (mR σ l0 2) l2.toNatClampNeg) 9)) rfl dX10_firstUnwritten_29 ?_
        refine lv_if_ne hx hb dX10_firstUnwritten_32 (tgt := 42) rfl (fun hc => ?_) (fun hc => ?_)
        · replace h := h.2 hc
          exact t_X10_firstUnwritten_42 C hr hK2 hS hW (hl.keep [true, true, true] rfl) h
        · replace h := h.1 hc
          refine x_aload_n C hl dX10_firstUnwritten_35 rfl ?_
          refine x_get C hW (t := 10) (k := 2) t1 kl_10 (by decide) fl_X10_11 (v := rv b0 (mR σ l0 2)) rfl dX10_firstUnwritten_36 ?_
          refine x_iload_n C hl dX10_firstUnwritten_39 rfl ?_
          refine x_aald C hW (t := 105) (t0 := 6) t2 (by decide) rfl v3 dX10_firstUnwritten_40 ?_
          exact r_r C hr hW hS h dX10_firstUnwritten_41
set_option maxRecDepth 20000 in
set_option maxHeartbeats 4000000 in
theorem t_X10_firstUnwritten_2 {p : Program} {l : Launch} {e : Env} {s : State} {m : MethodId} {args : Array Value} {below : List Frame} {meth : Method} {c : Code} {H : Heap} {locs : List Loc} {D : va_G} {tc : Nat → ClassId} {b0 : Nat} {ls : Array Slot} {G : Lay} {Qx : Nat → Mem → Prop} {l0 : Nat} {l1 : Int32} {l2 : Int32}  {σ : Mem} (C : Cx p s m args meth c cX10_firstUnwritten RX10 3 D tc b0) (hr : meth.sig.returnType = (some (FieldType.object "BeeRegister$Thing"))) (hS : va_S (AA b0) s.heap H locs) (hW : Wd G D tc b0 σ H) (hl : hL b0 ls 3 [some (.inr (.inr l0)), some (.inl l1), some (.inl l2)]) (h : X_X10_firstUnwritten_2 G Qx l0 l1 l2 σ) : W p l e rm_X10_firstUnwritten s m args below meth c H locs 0 0 (MQ below (va_Qq (fun o u => ∃ r, o = ro b0 r ∧ Qx r u) (fun u t => Pw G D tc b0 u t) (AA b0)) args s 0 0 (AA b0)) (F0 m 2 ls []) := by
  obtain ⟨n, h⟩ := h
  exact t_X10_firstUnwritten_2_n C hr n l2 σ H locs ls hS hW hl h
set_option maxRecDepth 20000 in
set_option maxHeartbeats 4000000 in
theorem t_X10_firstUnwritten_0 {p : Program} {l : Launch} {e : Env} {s : State} {m : MethodId} {args : Array Value} {below : List Frame} {meth : Method} {c : Code} {H : Heap} {locs : List Loc} {D : va_G} {tc : Nat → ClassId} {b0 : Nat} {ls : Array Slot} {G : Lay} {Qx : Nat → Mem → Prop} {l0 : Nat} {l1 : Int32}  {σ : Mem} (C : Cx p s m args meth c cX10_firstUnwritten RX10 3 D tc b0) (hr : meth.sig.returnType = (some (FieldType.object "BeeRegister$Thing"))) (hS : va_S (AA b0) s.heap H locs) (hW : Wd G D tc b0 σ H) (hl : hL b0 ls 3 [some (.inr (.inr l0)), some (.inl l1), none]) (h : X_X10_firstUnwritten_0 G Qx l0 l1  σ) : W p l e rm_X10_firstUnwritten s m args below meth c H locs 0 0 (MQ below (va_Qq (fun o u => ∃ r, o = ro b0 r ∧ Qx r u) (fun u t => Pw G D tc b0 u t) (AA b0)) args s 0 0 (AA b0)) (F0 m 0 ls []) := by
  have hx := C.1
  have hb := C.2.1
  unfold X_X10_firstUnwritten_0 at h
  refine lv_iconst (v := (0 : Int32)) hx hb dX10_firstUnwritten_0 (by decide) ?_
  refine x_istore_n C hl dX10_firstUnwritten_1 (by decide) rfl (fun ls hl => ?_)
  exact t_X10_firstUnwritten_2 C hr hS hW (hl.keep [true, true, true] rfl) h
theorem T_X10_firstUnwritten (l : Launch) {G : Lay} {D : va_G} {tc : Nat → ClassId} {b0 : Nat} (l0 : Nat) (l1 : Int32) (σ : Mem) (Qx : Nat → Mem → Prop) (h : X_X10_firstUnwritten G Qx l0 l1 σ) : MR l yX10_firstUnwritten cX10_firstUnwritten 3 ((some (FieldType.object "BeeRegister$Thing"))) rm_X10_firstUnwritten G D tc b0 [rv b0 l0, .int l1] σ Qx :=
  x_entry (y := yX10_firstUnwritten) [.inr (.inr l0), .inl l1] 1 (by decide) (Nat.le_of_ble_eq_true rfl) (fun p e s m args below meth c ls C hr hW hl => t_X10_firstUnwritten_0 C hr va_S.rf hW (hl.keep [true, true, false] rfl) h)
/-! X10_breakOff -/
set_option maxRecDepth 20000 in
set_option maxHeartbeats 4000000 in
theorem t_X10_breakOff_25 {p : Program} {l : Launch} {e : Env} {s : State} {m : MethodId} {args : Array Value} {below : List Frame} {meth : Method} {c : Code} {H : Heap} {locs : List Loc} {D : va_G} {tc : Nat → ClassId} {b0 : Nat} {ls : Array Slot} {G : Lay} {Qx : Int32 → Mem → Prop} {l0 : Nat} {l3 : Int32} {l4 : Int32}  {σ : Mem} (C : Cx p s m args meth c cX10_breakOff RX10 5 D tc b0) (hr : meth.sig.returnType = (some FieldType.boolean)) (hS : va_S (AA b0) s.heap H locs) (hW : Wd G D tc b0 σ H) (hl : hL b0 ls 5 [some (.inr (.inr l0)), none, none, some (.inl l3), some (.inl l4)]) (h : X_X10_breakOff_25 G Qx l0 l3 l4  σ) : W p l e rm_X10_breakOff s m args below meth c H locs 0 0 (MQ below (va_Qi Qx (fun u t => Pw G D tc b0 u t) (AA b0)) args s 0 0 (AA b0)) (F0 m 25 ls []) := by
  have hx := C.1
  have hb := C.2.1
  unfold X_X10_breakOff_25 at h
  refine x_aload_n C hl dX10_breakOff_25 rfl ?_
  refine x_iload_n C hl dX10_breakOff_26 rfl ?_
  have t1 := h.1
  replace h := h.2
  refine x_putI C hW hS (t := 10) (k := 7) t1 kl_10 (by decide) fl_X10_24 rfl rfl rfl rfl dX10_breakOff_27 (fun H locs hW hS => ?_)
  obtain ⟨s2, e_s2⟩ : ∃ z : Mem, z = (sI σ l0 7 l3) := ⟨_, rfl⟩
  replace h := h s2 e_s2
  replace hW : Wd G D tc b0 s2 H := by rw [e_s2]; exact hW
  refine x_aload_n C hl dX10_breakOff_30 rfl ?_
  refine x_iload C hl dX10_breakOff_31 rfl ?_
  refine x_putI C hW hS (t := 10) (k := 8) t1 kl_10 (by decide) fl_X10_27 rfl rfl rfl rfl dX10_breakOff_33 (fun H locs hW hS => ?_)
  obtain ⟨s3, e_s3⟩ : ∃ z : Mem, z = (sI s2 l0 8 l4) := ⟨_, rfl⟩
  replace h := h s3 e_s3
  replace hW : Wd G D tc b0 s3 H := by rw [e_s3]; exact hW
  refine lv_iconst (v := (0 : Int32)) hx hb dX10_breakOff_36 (by decide) ?_
  exact r_z C hr hW hS h.1 h.2 dX10_breakOff_37
set_option maxRecDepth 20000 in
set_option maxHeartbeats 4000000 in
theorem t_X10_breakOff_0 {p : Program} {l : Launch} {e : Env} {s : State} {m : MethodId} {args : Array Value} {below : List Frame} {meth : Method} {c : Code} {H : Heap} {locs : List Loc} {D : va_G} {tc : Nat → ClassId} {b0 : Nat} {ls : Array Slot} {G : Lay} {Qx : Int32 → Mem → Prop} {l0 : Nat} {l1 : Int32} {l2 : Nat} {l3 : Int32} {l4 : Int32}  {σ : Mem} (C : Cx p s m args meth c cX10_breakOff RX10 5 D tc b0) (hr : meth.sig.returnType = (some FieldType.boolean)) (hS : va_S (AA b0) s.heap H locs) (hW : Wd G D tc b0 σ H) (hl : hL b0 ls 5 [some (.inr (.inr l0)), some (.inl l1), some (.inr (.inr l2)), some (.inl l3), some (.inl l4)]) (h : X_X10_breakOff_0 G Qx l0 l1 l2 l3 l4  σ) : W p l e rm_X10_breakOff s m args below meth c H locs 0 0 (MQ below (va_Qi Qx (fun u t => Pw G D tc b0 u t) (AA b0)) args s 0 0 (AA b0)) (F0 m 0 ls []) := by
  have hx := C.1
  have hb := C.2.1
  unfold X_X10_breakOff_0 at h
  refine x_aload_n C hl dX10_breakOff_0 rfl ?_
  refine x_iload_n C hl dX10_breakOff_1 rfl ?_
  have t1 := h.1
  replace h := h.2
  refine x_putI C hW hS (t := 10) (k := 4) t1 kl_10 (by decide) fl_X10_91 rfl rfl rfl rfl dX10_breakOff_2 (fun H locs hW hS => ?_)
  obtain ⟨s2, e_s2⟩ : ∃ z : Mem, z = (sI σ l0 4 l1) := ⟨_, rfl⟩
  replace h := h s2 e_s2
  replace hW : Wd G D tc b0 s2 H := by rw [e_s2]; exact hW
  refine x_aload_n C hl dX10_breakOff_5 rfl ?_
  refine x_ifnull C dX10_breakOff_6 (tgt := 25) rfl (fun hc => ?_) (fun hc => ?_)
  · replace h := h.1 hc
    exact t_X10_breakOff_25 C hr hS hW (hl.keep [true, false, false, true, true] rfl) h
  · replace h := h.2 hc
    refine x_aload_n C hl dX10_breakOff_9 rfl ?_
    refine x_aload_n C hl dX10_breakOff_10 rfl ?_
    have t3 := h.1
    replace h := h.2
    refine x_get C hW (t := 7) (k := 4) t3 kl_7 (by decide) fl_X10_165 (v := .int (mI s2 l2 4)) rfl dX10_breakOff_11 ?_
    refine x_putI C hW hS (t := 10) (k := 5) t1 kl_10 (by decide) fl_X10_17 rfl rfl rfl rfl dX10_breakOff_14 (fun H locs hW hS => ?_)
    obtain ⟨s4, e_s4⟩ : ∃ z : Mem, z = (sI s2 l0 5 (mI s2 l2 4)) := ⟨_, rfl⟩
    replace h := h s4 e_s4
    replace hW : Wd G D tc b0 s4 H := by rw [e_s4]; exact hW
    refine x_aload_n C hl dX10_breakOff_17 rfl ?_
    refine x_aload_n C hl dX10_breakOff_18 rfl ?_
    refine x_get C hW (t := 7) (k := 3) t3 kl_7 (by decide) fl_X10_207 (v := .int (mI s4 l2 3)) rfl dX10_breakOff_19 ?_
    refine x_putI C hW hS (t := 10) (k := 6) t1 kl_10 (by decide) fl_X10_21 rfl rfl rfl rfl dX10_breakOff_22 (fun H locs hW hS => ?_)
    obtain ⟨s5, e_s5⟩ : ∃ z : Mem, z = (sI s4 l0 6 (mI s4 l2 3)) := ⟨_, rfl⟩
    replace h := h s5 e_s5
    replace hW : Wd G D tc b0 s5 H := by rw [e_s5]; exact hW
    exact t_X10_breakOff_25 C hr hS hW (hl.keep [true, false, false, true, true] rfl) h
theorem T_X10_breakOff (l : Launch) {G : Lay} {D : va_G} {tc : Nat → ClassId} {b0 : Nat} (l0 : Nat) (l1 : Int32) (l2 : Nat) (l3 : Int32) (l4 : Int32) (σ : Mem) (Qx : Int32 → Mem → Prop) (h : X_X10_breakOff G Qx l0 l1 l2 l3 l4 σ) : MI l yX10_breakOff cX10_breakOff 5 ((some FieldType.boolean)) rm_X10_breakOff G D tc b0 [rv b0 l0, .int l1, rv b0 l2, .int l3, .int l4] σ Qx :=
  x_entry (y := yX10_breakOff) [.inr (.inr l0), .inl l1, .inr (.inr l2), .inl l3, .inl l4] 0 (by decide) (Nat.le_of_ble_eq_true rfl) (fun p e s m args below meth c ls C hr hW hl => t_X10_breakOff_0 C hr va_S.rf hW (hl.keep [true, true, true, true, true] rfl) h)
/-! X10_keepsRules -/
set_option maxRecDepth 20000 in
set_option maxHeartbeats 4000000 in
theorem t_X10_keepsRules_56 {p : Program} {l : Launch} {e : Env} {s : State} {m : MethodId} {args : Array Value} {below : List Frame} {meth : Method} {c : Code} {H : Heap} {locs : List Loc} {D : va_G} {tc : Nat → ClassId} {b0 : Nat} {ls : Array Slot} {G : Lay} {Qx : Int32 → Mem → Prop} {l0 : Nat} {l1 : Nat} {l2 : Int32} {l3 : Int32}  {K2 : Int32 × Mem → Prop} {σ : Mem} (C : Cx p s m args meth c cX10_keepsRules RX10 5 D tc b0) (hr : meth.sig.returnType = (some FieldType.boolean)) (hK2 : ∀ (x3 : Int32) (σ : Mem) (H : Heap) (locs : List Loc) (ls : Array Slot), va_S (AA b0) s.heap H locs → Wd G D tc b0 σ H → hL b0 ls 5 [some (.inr (.inr l0)), some (.inr (.inr l1)), some (.inl l2), some (.inl x3), none] → K2 (x3, σ) → W p l e rm_X10_keepsRules s m args below meth c H locs 0 0 (MQ below (va_Qi Qx (fun u t => Pw G D tc b0 u t) (AA b0)) args s 0 0 (AA b0)) (F0 m 2 ls [])) (hS : va_S (AA b0) s.heap H locs) (hW : Wd G D tc b0 σ H) (hl : hL b0 ls 5 [some (.inr (.inr l0)), some (.inr (.inr l1)), some (.inl l2), some (.inl l3), none]) (h : X_X10_keepsRules_56 G Qx K2 l0 l1 l2 l3  σ) : W p l e rm_X10_keepsRules s m args below meth c H locs 0 0 (MQ below (va_Qi Qx (fun u t => Pw G D tc b0 u t) (AA b0)) args s 0 0 (AA b0)) (F0 m 56 ls []) := by
  have hx := C.1
  have hb := C.2.1
  unfold X_X10_keepsRules_56 at h
  refine x_iinc C hl dX10_keepsRules_56 rfl (v := (1 : Int32)) (by decide) (by decide) rfl (fun ls hl => ?_)
  refine lv_goto hx hb dX10_keepsRules_59 (tgt := 2) rfl ?_
  exact hK2 _ _ _ _ _ hS hW (hl.keep [true, true, true, true, false] rfl) h
set_option maxRecDepth 20000 in
set_option maxHeartbeats 4000000 in
theorem t_X10_keepsRules_2_n {p : Program} {l : Launch} {e : Env} {s : State} {m : MethodId} {args : Array Value} {below : List Frame} {meth : Method} {c : Code} {D : va_G} {tc : Nat → ClassId} {b0 : Nat} {G : Lay} {Qx : Int32 → Mem → Prop} {l0 : Nat} {l1 : Nat} {l2 : Int32} (C : Cx p s m args meth c cX10_keepsRules RX10 5 D tc b0) (hr : meth.sig.returnType = (some FieldType.boolean)) (n : Nat) : ∀ (l3 : Int32) (σ : Mem) (H : Heap) (locs : List Loc) (ls : Array Slot), va_S (AA b0) s.heap H locs → Wd G D tc b0 σ H → hL b0 ls 5 [some (.inr (.inr l0)), some (.inr (.inr l1)), some (.inl l2), some (.inl l3), none] → Lp (X_X10_keepsRules_2_s G Qx l0 l1 l2) n (l3, σ) → W p l e rm_X10_keepsRules s m args below meth c H locs 0 0 (MQ below (va_Qi Qx (fun u t => Pw G D tc b0 u t) (AA b0)) args s 0 0 (AA b0)) (F0 m 2 ls []) := by
  have hx := C.1
  have hb := C.2.1
  induction n with
  | zero => intro l3 σ H locs ls hS hW hl h; exact False.elim h
  | succ n hK2 =>
    intro l3 σ H locs ls hS hW hl h
    replace h : X_X10_keepsRules_2_s G Qx l0 l1 l2 (Lp (X_X10_keepsRules_2_s G Qx l0 l1 l2) n) (l3, σ) := h
    unfold X_X10_keepsRules_2_s at h
    refine x_iload_n C hl dX10_keepsRules_2 rfl ?_
    refine lv_bipush (v := (16 : Int32)) hx hb dX10_keepsRules_3 (by decide) ?_
    refine lv_icmp_ge hx hb dX10_keepsRules_5 (tgt := 62) rfl (fun hc => ?_) (fun hc => ?_)
    · replace h := h.1 hc
      refine lv_iconst (v := (1 : Int32)) hx hb dX10_keepsRules_62 (by decide) ?_
      exact r_z C hr hW hS h.1 h.2 dX10_keepsRules_63
    · replace h := h.2 hc
      refine x_iload_n C hl dX10_keepsRules_8 rfl ?_
      refine x_iload_n C hl dX10_keepsRules_9 rfl ?_
      refine lv_ishr hx hb dX10_keepsRules_10 ?_
      refine lv_iconst (v := (1 : Int32)) hx hb dX10_keepsRules_11 (by decide) ?_
      refine lv_iand hx hb dX10_keepsRules_12 ?_
      refine lv_if_eq hx hb dX10_keepsRules_13 (tgt := 56) rfl (fun hc => ?_) (fun hc => ?_)
      · replace h := h.1 hc
        exact t_X10_keepsRules_56 C hr hK2 hS hW (hl.keep [true, true, true, true, false] rfl) h
      · replace h := h.2 hc
        refine x_aload_n C hl dX10_keepsRules_16 rfl ?_
        have t1 := h.1
        replace h := h.2
        refine x_get C hW (t := 10) (k := 0) t1 kl_10 (by decide) fl_X10_43 (v := rv b0 (mR σ l0 0)) rfl dX10_keepsRules_17 ?_
        refine x_aload_n C hl dX10_keepsRules_20 rfl ?_
        have t2 := h.1
        replace h := h.2
        refine x_get C hW (t := 7) (k := 4) t2 kl_7 (by decide) fl_X10_165 (v := .int (mI σ l1 4)) rfl dX10_keepsRules_21 ?_
        refine x_aload_n C hl dX10_keepsRules_24 rfl ?_
        refine x_get C hW (t := 7) (k := 3) t2 kl_7 (by decide) fl_X10_207 (v := .int (mI σ l1 3)) rfl dX10_keepsRules_25 ?_
        refine x_iload_n C hl dX10_keepsRules_28 rfl ?_
        refine x_aload_n C hl dX10_keepsRules_29 rfl ?_
        refine x_get C hW (t := 7) (k := 6) t2 kl_7 (by decide) fl_X10_181 (v := rv b0 (mR σ l1 6)) rfl dX10_keepsRules_30 ?_
        refine x_iload_n C hl dX10_keepsRules_33 rfl ?_
        have t3 := h.1
        replace h := h.2
        have v4 := h.1
        replace h := h.2
        refine x_iald C hW t3 v4 dX10_keepsRules_34 ?_
        have t5 := h.1
        replace h := h.2
        refine y_i (x_run (As := [.int (mI σ l1 4), .int (mI σ l1 3), .int l3, .int (mI σ (mR σ l1 6) l3.toNatClampNeg)]) C hW hS (T_X5_brokenRule l (mR σ l0 0) (mI σ l1 4) (mI σ l1 3) l3 (mI σ (mR σ l1 6) l3.toNatClampNeg) σ _ h) t5 kl_5 (CW.of yv_X5_brokenRule ml_X10_222) ⟨rfl, rfl, ⟨by decide, by decide⟩, by decide, by decide⟩ rfl hl.1 rfl (by decide) dX10_keepsRules_35) hS (fun w7 s6 H locs h hW hS => ?_)
        refine x_istore C hl dX10_keepsRules_38 (by decide) rfl (fun ls hl => ?_)
        refine x_iload C hl dX10_keepsRules_40 rfl ?_
        refine lv_iconst (v := (-1 : Int32)) hx hb dX10_keepsRules_42 (by decide) ?_
        refine lv_icmp_eq hx hb dX10_keepsRules_43 (tgt := 56) rfl (fun hc => ?_) (fun hc => ?_)
        · replace h := h.1 hc
          exact t_X10_keepsRules_56 C hr hK2 hS hW (hl.keep [true, true, true, true, false] rfl) h
        · replace h := h.2 hc
          refine x_aload_n C hl dX10_keepsRules_46 rfl ?_
          refine lv_iconst (v := (1 : Int32)) hx hb dX10_keepsRules_47 (by decide) ?_
          refine x_aload_n C hl dX10_keepsRules_48 rfl ?_
          refine x_iload_n C hl dX10_keepsRules_49 rfl ?_
          refine x_iload C hl dX10_keepsRules_50 rfl ?_
          refine y_i (x_run (As := [.int (1 : Int32), rv b0 l1, .int l3, .int w7]) C hW hS (T_X10_breakOff l l0 (1 : Int32) l1 l3 w7 s6 _ h) t1 kl_10 (CW.of yv_X10_breakOff ml_X10_146) ⟨rfl, rfl, ⟨by decide, by decide⟩, by decide, by decide⟩ rfl hl.1 rfl (by decide) dX10_keepsRules_52) hS (fun w9 s8 H locs h hW hS => ?_)
          exact r_z C hr hW hS h.1 h.2 dX10_keepsRules_55
set_option maxRecDepth 20000 in
set_option maxHeartbeats 4000000 in
theorem t_X10_keepsRules_2 {p : Program} {l : Launch} {e : Env} {s : State} {m : MethodId} {args : Array Value} {below : List Frame} {meth : Method} {c : Code} {H : Heap} {locs : List Loc} {D : va_G} {tc : Nat → ClassId} {b0 : Nat} {ls : Array Slot} {G : Lay} {Qx : Int32 → Mem → Prop} {l0 : Nat} {l1 : Nat} {l2 : Int32} {l3 : Int32}  {σ : Mem} (C : Cx p s m args meth c cX10_keepsRules RX10 5 D tc b0) (hr : meth.sig.returnType = (some FieldType.boolean)) (hS : va_S (AA b0) s.heap H locs) (hW : Wd G D tc b0 σ H) (hl : hL b0 ls 5 [some (.inr (.inr l0)), some (.inr (.inr l1)), some (.inl l2), some (.inl l3), none]) (h : X_X10_keepsRules_2 G Qx l0 l1 l2 l3 σ) : W p l e rm_X10_keepsRules s m args below meth c H locs 0 0 (MQ below (va_Qi Qx (fun u t => Pw G D tc b0 u t) (AA b0)) args s 0 0 (AA b0)) (F0 m 2 ls []) := by
  obtain ⟨n, h⟩ := h
  exact t_X10_keepsRules_2_n C hr n l3 σ H locs ls hS hW hl h
set_option maxRecDepth 20000 in
set_option maxHeartbeats 4000000 in
theorem t_X10_keepsRules_0 {p : Program} {l : Launch} {e : Env} {s : State} {m : MethodId} {args : Array Value} {below : List Frame} {meth : Method} {c : Code} {H : Heap} {locs : List Loc} {D : va_G} {tc : Nat → ClassId} {b0 : Nat} {ls : Array Slot} {G : Lay} {Qx : Int32 → Mem → Prop} {l0 : Nat} {l1 : Nat} {l2 : Int32}  {σ : Mem} (C : Cx p s m args meth c cX10_keepsRules RX10 5 D tc b0) (hr : meth.sig.returnType = (some FieldType.boolean)) (hS : va_S (AA b0) s.heap H locs) (hW : Wd G D tc b0 σ H) (hl : hL b0 ls 5 [some (.inr (.inr l0)), some (.inr (.inr l1)), some (.inl l2), none, none]) (h : X_X10_keepsRules_0 G Qx l0 l1 l2  σ) : W p l e rm_X10_keepsRules s m args below meth c H locs 0 0 (MQ below (va_Qi Qx (fun u t => Pw G D tc b0 u t) (AA b0)) args s 0 0 (AA b0)) (F0 m 0 ls []) := by
  have hx := C.1
  have hb := C.2.1
  unfold X_X10_keepsRules_0 at h
  refine lv_iconst (v := (0 : Int32)) hx hb dX10_keepsRules_0 (by decide) ?_
  refine x_istore_n C hl dX10_keepsRules_1 (by decide) rfl (fun ls hl => ?_)
  exact t_X10_keepsRules_2 C hr hS hW (hl.keep [true, true, true, true, false] rfl) h
theorem T_X10_keepsRules (l : Launch) {G : Lay} {D : va_G} {tc : Nat → ClassId} {b0 : Nat} (l0 : Nat) (l1 : Nat) (l2 : Int32) (σ : Mem) (Qx : Int32 → Mem → Prop) (h : X_X10_keepsRules G Qx l0 l1 l2 σ) : MI l yX10_keepsRules cX10_keepsRules 5 ((some FieldType.boolean)) rm_X10_keepsRules G D tc b0 [rv b0 l0, rv b0 l1, .int l2] σ Qx :=
  x_entry (y := yX10_keepsRules) [.inr (.inr l0), .inr (.inr l1), .inl l2] 2 (by decide) (Nat.le_of_ble_eq_true rfl) (fun p e s m args below meth c ls C hr hW hl => t_X10_keepsRules_0 C hr va_S.rf hW (hl.keep [true, true, true, false, false] rfl) h)
/-! X10_noteWrite -/
set_option maxRecDepth 20000 in
set_option maxHeartbeats 4000000 in
theorem t_X10_noteWrite_68 {p : Program} {l : Launch} {e : Env} {s : State} {m : MethodId} {args : Array Value} {below : List Frame} {meth : Method} {c : Code} {H : Heap} {locs : List Loc} {D : va_G} {tc : Nat → ClassId} {b0 : Nat} {ls : Array Slot} {G : Lay} {Qx : Mem → Prop}   {σ : Mem} (C : Cx p s m args meth c cX10_noteWrite RX10 4 D tc b0) (hr : meth.sig.returnType = (none : Option FieldType)) (hS : va_S (AA b0) s.heap H locs) (hW : Wd G D tc b0 σ H) (hl : hL b0 ls 4 [none, none, none, none]) (h : X_X10_noteWrite_68 G Qx   σ) : W p l e rm_X10_noteWrite s m args below meth c H locs 0 0 (MQ below (va_Qv Qx (fun u t => Pw G D tc b0 u t) (AA b0)) args s 0 0 (AA b0)) (F0 m 68 ls []) := by
  have hx := C.1
  have hb := C.2.1
  unfold X_X10_noteWrite_68 at h
  exact r_v C hr hW hS h dX10_noteWrite_68
set_option maxRecDepth 20000 in
set_option maxHeartbeats 4000000 in
theorem t_X10_noteWrite_0 {p : Program} {l : Launch} {e : Env} {s : State} {m : MethodId} {args : Array Value} {below : List Frame} {meth : Method} {c : Code} {H : Heap} {locs : List Loc} {D : va_G} {tc : Nat → ClassId} {b0 : Nat} {ls : Array Slot} {G : Lay} {Qx : Mem → Prop} {l0 : Nat} {l1 : Int32} {l2 : Nat} {l3 : Int32}  {σ : Mem} (C : Cx p s m args meth c cX10_noteWrite RX10 4 D tc b0) (hr : meth.sig.returnType = (none : Option FieldType)) (hS : va_S (AA b0) s.heap H locs) (hW : Wd G D tc b0 σ H) (hl : hL b0 ls 4 [some (.inr (.inr l0)), some (.inl l1), some (.inr (.inr l2)), some (.inl l3)]) (h : X_X10_noteWrite_0 G Qx l0 l1 l2 l3  σ) : W p l e rm_X10_noteWrite s m args below meth c H locs 0 0 (MQ below (va_Qv Qx (fun u t => Pw G D tc b0 u t) (AA b0)) args s 0 0 (AA b0)) (F0 m 0 ls []) := by
  have hx := C.1
  have hb := C.2.1
  unfold X_X10_noteWrite_0 at h
  refine x_aload_n C hl dX10_noteWrite_0 rfl ?_
  have t1 := h.1
  replace h := h.2
  refine x_get C hW (t := 10) (k := 9) t1 kl_10 (by decide) fl_X10_59 (v := .int (mI σ l0 9)) rfl dX10_noteWrite_1 ?_
  refine x_aload_n C hl dX10_noteWrite_4 rfl ?_
  refine x_get C hW (t := 10) (k := 10) t1 kl_10 (by decide) fl_X10_30 (v := rv b0 (mR σ l0 10)) rfl dX10_noteWrite_5 ?_
  have t2 := h.1
  replace h := h.2
  refine x_alen C hW (t := 99) (t0 := 0) t2 (by decide) rfl dX10_noteWrite_8 ?_
  refine lv_icmp_ge hx hb dX10_noteWrite_9 (tgt := 68) rfl (fun hc => ?_) (fun hc => ?_)
  · replace h := h.1 hc
    exact t_X10_noteWrite_68 C hr hS hW (hl.keep [false, false, false, false] rfl) h
  · replace h := h.2 hc
    refine x_aload_n C hl dX10_noteWrite_12 rfl ?_
    refine x_get C hW (t := 10) (k := 10) t1 kl_10 (by decide) fl_X10_30 (v := rv b0 (mR σ l0 10)) rfl dX10_noteWrite_13 ?_
    refine x_aload_n C hl dX10_noteWrite_16 rfl ?_
    refine x_get C hW (t := 10) (k := 9) t1 kl_10 (by decide) fl_X10_59 (v := .int (mI σ l0 9)) rfl dX10_noteWrite_17 ?_
    refine x_iload_n C hl dX10_noteWrite_20 rfl ?_
    have v3 := h.1
    replace h := h.2
    refine x_iast C hW hS t2 v3 dX10_noteWrite_21 (fun H locs hW hS => ?_)
    obtain ⟨s4, e_s4⟩ : ∃ z : Mem, z = (sI σ (mR σ l0 10) (mI σ l0 9).toNatClampNeg l1) := ⟨_, rfl⟩
    replace h := h s4 e_s4
    replace hW : Wd G D tc b0 s4 H := by rw [e_s4]; exact hW
    refine x_aload_n C hl dX10_noteWrite_22 rfl ?_
    refine x_get C hW (t := 10) (k := 11) t1 kl_10 (by decide) fl_X10_34 (v := rv b0 (mR s4 l0 11)) rfl dX10_noteWrite_23 ?_
    refine x_aload_n C hl dX10_noteWrite_26 rfl ?_
    refine x_get C hW (t := 10) (k := 9) t1 kl_10 (by decide) fl_X10_59 (v := .int (mI s4 l0 9)) rfl dX10_noteWrite_27 ?_
    refine x_aload_n C hl dX10_noteWrite_30 rfl ?_
    have t5 := h.1
    replace h := h.2
    refine x_get C hW (t := 7) (k := 4) t5 kl_7 (by decide) fl_X10_165 (v := .int (mI s4 l2 4)) rfl dX10_noteWrite_31 ?_
    have t6 := h.1
    replace h := h.2
    have v7 := h.1
    replace h := h.2
    refine x_iast C hW hS t6 v7 dX10_noteWrite_34 (fun H locs hW hS => ?_)
    obtain ⟨s8, e_s8⟩ : ∃ z : Mem, z = (sI s4 (mR s4 l0 11) (mI s4 l0 9).toNatClampNeg (mI s4 l2 4)) := ⟨_, rfl⟩
    replace h := h s8 e_s8
    replace hW : Wd G D tc b0 s8 H := by rw [e_s8]; exact hW
    refine x_aload_n C hl dX10_noteWrite_35 rfl ?_
    refine x_get C hW (t := 10) (k := 12) t1 kl_10 (by decide) fl_X10_37 (v := rv b0 (mR s8 l0 12)) rfl dX10_noteWrite_36 ?_
    refine x_aload_n C hl dX10_noteWrite_39 rfl ?_
    refine x_get C hW (t := 10) (k := 9) t1 kl_10 (by decide) fl_X10_59 (v := .int (mI s8 l0 9)) rfl dX10_noteWrite_40 ?_
    refine x_aload_n C hl dX10_noteWrite_43 rfl ?_
    refine x_get C hW (t := 7) (k := 3) t5 kl_7 (by decide) fl_X10_207 (v := .int (mI s8 l2 3)) rfl dX10_noteWrite_44 ?_
    have t9 := h.1
    replace h := h.2
    have v10 := h.1
    replace h := h.2
    refine x_iast C hW hS t9 v10 dX10_noteWrite_47 (fun H locs hW hS => ?_)
    obtain ⟨s11, e_s11⟩ : ∃ z : Mem, z = (sI s8 (mR s8 l0 12) (mI s8 l0 9).toNatClampNeg (mI s8 l2 3)) := ⟨_, rfl⟩
    replace h := h s11 e_s11
    replace hW : Wd G D tc b0 s11 H := by rw [e_s11]; exact hW
    refine x_aload_n C hl dX10_noteWrite_48 rfl ?_
    refine x_get C hW (t := 10) (k := 13) t1 kl_10 (by decide) fl_X10_40 (v := rv b0 (mR s11 l0 13)) rfl dX10_noteWrite_49 ?_
    refine x_aload_n C hl dX10_noteWrite_52 rfl ?_
    refine x_get C hW (t := 10) (k := 9) t1 kl_10 (by decide) fl_X10_59 (v := .int (mI s11 l0 9)) rfl dX10_noteWrite_53 ?_
    refine x_iload_n C hl dX10_noteWrite_56 rfl ?_
    have t12 := h.1
    replace h := h.2
    have v13 := h.1
    replace h := h.2
    refine x_iast C hW hS t12 v13 dX10_noteWrite_57 (fun H locs hW hS => ?_)
    obtain ⟨s14, e_s14⟩ : ∃ z : Mem, z = (sI s11 (mR s11 l0 13) (mI s11 l0 9).toNatClampNeg l3) := ⟨_, rfl⟩
    replace h := h s14 e_s14
    replace hW : Wd G D tc b0 s14 H := by rw [e_s14]; exact hW
    refine x_aload_n C hl dX10_noteWrite_58 rfl ?_
    refine lv_dup hx hb dX10_noteWrite_59 (rv_cat _ _) ?_
    refine x_get C hW (t := 10) (k := 9) t1 kl_10 (by decide) fl_X10_59 (v := .int (mI s14 l0 9)) rfl dX10_noteWrite_60 ?_
    refine lv_iconst (v := (1 : Int32)) hx hb dX10_noteWrite_63 (by decide) ?_
    refine lv_iadd hx hb dX10_noteWrite_64 ?_
    refine x_putI C hW hS (t := 10) (k := 9) t1 kl_10 (by decide) fl_X10_59 rfl rfl rfl rfl dX10_noteWrite_65 (fun H locs hW hS => ?_)
    obtain ⟨s15, e_s15⟩ : ∃ z : Mem, z = (sI s14 l0 9 ((mI s14 l0 9) + (1 : Int32))) := ⟨_, rfl⟩
    replace h := h s15 e_s15
    replace hW : Wd G D tc b0 s15 H := by rw [e_s15]; exact hW
    exact t_X10_noteWrite_68 C hr hS hW (hl.keep [false, false, false, false] rfl) h
theorem T_X10_noteWrite (l : Launch) {G : Lay} {D : va_G} {tc : Nat → ClassId} {b0 : Nat} (l0 : Nat) (l1 : Int32) (l2 : Nat) (l3 : Int32) (σ : Mem) (Qx : Mem → Prop) (h : X_X10_noteWrite G Qx l0 l1 l2 l3 σ) : MV l yX10_noteWrite cX10_noteWrite 4 ((none : Option FieldType)) rm_X10_noteWrite G D tc b0 [rv b0 l0, .int l1, rv b0 l2, .int l3] σ Qx :=
  x_entry (y := yX10_noteWrite) [.inr (.inr l0), .inl l1, .inr (.inr l2), .inl l3] 0 (by decide) (Nat.le_of_ble_eq_true rfl) (fun p e s m args below meth c ls C hr hW hl => t_X10_noteWrite_0 C hr va_S.rf hW (hl.keep [true, true, true, true] rfl) h)
/-! X10_insert -/
set_option maxRecDepth 20000 in
set_option maxHeartbeats 4000000 in
theorem t_X10_insert_98 {p : Program} {l : Launch} {e : Env} {s : State} {m : MethodId} {args : Array Value} {below : List Frame} {meth : Method} {c : Code} {H : Heap} {locs : List Loc} {D : va_G} {tc : Nat → ClassId} {b0 : Nat} {ls : Array Slot} {G : Lay} {Qx : Int32 → Mem → Prop} {l0 : Nat} {l1 : Nat} {l2 : Int32} {l3 : Int32} {l4 : Int32} {k0 : Nat} {k1 : Int32} {k2 : Int32} {k3 : Int32} {K64 : Int32 × Mem → Prop} {σ : Mem} (C : Cx p s m args meth c cX10_insert RX10 5 D tc b0) (hr : meth.sig.returnType = (some FieldType.boolean)) (hK64 : ∀ (x4 : Int32) (σ : Mem) (H : Heap) (locs : List Loc) (ls : Array Slot), va_S (AA b0) s.heap H locs → Wd G D tc b0 σ H → hL b0 ls 5 [some (.inr (.inr l0)), some (.inr (.inr l1)), some (.inl l2), some (.inl l3), some (.inl x4)] → K64 (x4, σ) → W p l e rm_X10_insert s m args below meth c H locs 0 0 (MQ below (va_Qi Qx (fun u t => Pw G D tc b0 u t) (AA b0)) args s 0 0 (AA b0)) (F0 m 64 ls [])) (hS : va_S (AA b0) s.heap H locs) (hW : Wd G D tc b0 σ H) (hl : hL b0 ls 5 [some (.inr (.inr l0)), some (.inr (.inr l1)), some (.inl l2), some (.inl l3), some (.inl l4)]) (h : X_X10_insert_98 G Qx K64 l0 l1 l2 l3 l4 k0 k1 k2 k3 σ) : W p l e rm_X10_insert s m args below meth c H locs 0 0 (MQ below (va_Qi Qx (fun u t => Pw G D tc b0 u t) (AA b0)) args s 0 0 (AA b0)) (F0 m 98 ls [.int k3, .int k2, .int k1, rv b0 k0]) := by
  have hx := C.1
  have hb := C.2.1
  unfold X_X10_insert_98 at h
  have t1 := h.1
  replace h := h.2
  refine y_v (x_run (As := [.int k1, .int k2, .int k3]) C hW hS (T_X5_set l k0 k1 k2 k3 σ _ h) t1 kl_5 (CW.of yv_X5_set ml_X10_214) ⟨rfl, rfl, ⟨by decide, by decide⟩, by decide, by decide⟩ rfl hl.1 rfl (by decide) dX10_insert_98) hS (fun s2 H locs h hW hS => ?_)
  refine x_iinc C hl dX10_insert_101 rfl (v := (1 : Int32)) (by decide) (by decide) rfl (fun ls hl => ?_)
  refine lv_goto hx hb dX10_insert_104 (tgt := 64) rfl ?_
  exact hK64 _ _ _ _ _ hS hW (hl.keep [true, true, true, true, true] rfl) h
set_option maxRecDepth 20000 in
set_option maxHeartbeats 4000000 in
theorem t_X10_insert_64_n {p : Program} {l : Launch} {e : Env} {s : State} {m : MethodId} {args : Array Value} {below : List Frame} {meth : Method} {c : Code} {D : va_G} {tc : Nat → ClassId} {b0 : Nat} {G : Lay} {Qx : Int32 → Mem → Prop} {l0 : Nat} {l1 : Nat} {l2 : Int32} {l3 : Int32} (C : Cx p s m args meth c cX10_insert RX10 5 D tc b0) (hr : meth.sig.returnType = (some FieldType.boolean)) (n : Nat) : ∀ (l4 : Int32) (σ : Mem) (H : Heap) (locs : List Loc) (ls : Array Slot), va_S (AA b0) s.heap H locs → Wd G D tc b0 σ H → hL b0 ls 5 [some (.inr (.inr l0)), some (.inr (.inr l1)), some (.inl l2), some (.inl l3), some (.inl l4)] → Lp (X_X10_insert_64_s G Qx l0 l1 l2 l3) n (l4, σ) → W p l e rm_X10_insert s m args below meth c H locs 0 0 (MQ below (va_Qi Qx (fun u t => Pw G D tc b0 u t) (AA b0)) args s 0 0 (AA b0)) (F0 m 64 ls []) := by
  have hx := C.1
  have hb := C.2.1
  induction n with
  | zero => intro l4 σ H locs ls hS hW hl h; exact False.elim h
  | succ n hK64 =>
    intro l4 σ H locs ls hS hW hl h
    replace h : X_X10_insert_64_s G Qx l0 l1 l2 l3 (Lp (X_X10_insert_64_s G Qx l0 l1 l2 l3) n) (l4, σ) := h
    unfold X_X10_insert_64_s at h
    refine x_iload C hl dX10_insert_64 rfl ?_
    refine lv_bipush (v := (16 : Int32)) hx hb dX10_insert_66 (by decide) ?_
    refine lv_icmp_ge hx hb dX10_insert_68 (tgt := 107) rfl (fun hc => ?_) (fun hc => ?_)
    · replace h := h.1 hc
      refine x_aload_n C hl dX10_insert_107 rfl ?_
      refine lv_iconst (v := (1 : Int32)) hx hb dX10_insert_108 (by decide) ?_
      have t1 := h.1
      replace h := h.2
      have b3 := h.1
      replace h := h.2
      refine x_putI C hW hS (t := 7) (k := 9) t1 kl_7 (by decide) fl_X10_109 rfl rfl (bz_n b3) (bz_f b3) dX10_insert_109 (fun H locs hW hS => ?_)
      obtain ⟨s2, e_s2⟩ : ∃ z : Mem, z = (sI σ l1 9 (1 : Int32)) := ⟨_, rfl⟩
      replace h := h s2 e_s2
      replace hW : Wd G D tc b0 s2 H := by rw [e_s2]; exact hW
      refine x_aload_n C hl dX10_insert_112 rfl ?_
      refine lv_iconst (v := (0 : Int32)) hx hb dX10_insert_113 (by decide) ?_
      refine x_aload_n C hl dX10_insert_114 rfl ?_
      refine lv_iconst (v := (0 : Int32)) hx hb dX10_insert_115 (by decide) ?_
      have t4 := h.1
      replace h := h.2
      refine y_v (x_run (As := [.int (0 : Int32), rv b0 l1, .int (0 : Int32)]) C hW hS (T_X10_noteWrite l l0 (0 : Int32) l1 (0 : Int32) s2 _ h) t4 kl_10 (CW.of yv_X10_noteWrite ml_X10_218) ⟨rfl, rfl, ⟨by decide, by decide⟩, by decide, by decide⟩ rfl hl.1 rfl (by decide) dX10_insert_116) hS (fun s5 H locs h hW hS => ?_)
      refine lv_iconst (v := (1 : Int32)) hx hb dX10_insert_119 (by decide) ?_
      exact r_z C hr hW hS h.1 h.2 dX10_insert_120
    · replace h := h.2 hc
      refine x_aload_n C hl dX10_insert_71 rfl ?_
      have t6 := h.1
      replace h := h.2
      refine x_get C hW (t := 10) (k := 0) t6 kl_10 (by decide) fl_X10_43 (v := rv b0 (mR σ l0 0)) rfl dX10_insert_72 ?_
      refine x_iload_n C hl dX10_insert_75 rfl ?_
      refine x_iload C hl dX10_insert_76 rfl ?_
      refine x_iload_n C hl dX10_insert_78 rfl ?_
      refine x_iload C hl dX10_insert_79 rfl ?_
      refine lv_ishr hx hb dX10_insert_81 ?_
      refine lv_iconst (v := (1 : Int32)) hx hb dX10_insert_82 (by decide) ?_
      refine lv_iand hx hb dX10_insert_83 ?_
      refine lv_if_eq hx hb dX10_insert_84 (tgt := 97) rfl (fun hc => ?_) (fun hc => ?_)
      · replace h := h.1 hc
        refine lv_iconst (v := (0 : Int32)) hx hb dX10_insert_97 (by decide) ?_
        exact t_X10_insert_98 C hr hK64 hS hW (hl.keep [true, true, true, true, true] rfl) h
      · replace h := h.2 hc
        refine x_aload_n C hl dX10_insert_87 rfl ?_
        have t7 := h.1
        replace h := h.2
        refine x_get C hW (t := 7) (k := 6) t7 kl_7 (by decide) fl_X10_181 (v := rv b0 (mR σ l1 6)) rfl dX10_insert_88 ?_
        refine x_iload C hl dX10_insert_91 rfl ?_
        have t8 := h.1
        replace h := h.2
        have v9 := h.1
        replace h := h.2
        refine x_iald C hW t8 v9 dX10_insert_93 ?_
        refine lv_goto hx hb dX10_insert_94 (tgt := 98) rfl ?_
        exact t_X10_insert_98 C hr hK64 hS hW (hl.keep [true, true, true, true, true] rfl) h
set_option maxRecDepth 20000 in
set_option maxHeartbeats 4000000 in
theorem t_X10_insert_64 {p : Program} {l : Launch} {e : Env} {s : State} {m : MethodId} {args : Array Value} {below : List Frame} {meth : Method} {c : Code} {H : Heap} {locs : List Loc} {D : va_G} {tc : Nat → ClassId} {b0 : Nat} {ls : Array Slot} {G : Lay} {Qx : Int32 → Mem → Prop} {l0 : Nat} {l1 : Nat} {l2 : Int32} {l3 : Int32} {l4 : Int32}  {σ : Mem} (C : Cx p s m args meth c cX10_insert RX10 5 D tc b0) (hr : meth.sig.returnType = (some FieldType.boolean)) (hS : va_S (AA b0) s.heap H locs) (hW : Wd G D tc b0 σ H) (hl : hL b0 ls 5 [some (.inr (.inr l0)), some (.inr (.inr l1)), some (.inl l2), some (.inl l3), some (.inl l4)]) (h : X_X10_insert_64 G Qx l0 l1 l2 l3 l4 σ) : W p l e rm_X10_insert s m args below meth c H locs 0 0 (MQ below (va_Qi Qx (fun u t => Pw G D tc b0 u t) (AA b0)) args s 0 0 (AA b0)) (F0 m 64 ls []) := by
  obtain ⟨n, h⟩ := h
  exact t_X10_insert_64_n C hr n l4 σ H locs ls hS hW hl h
set_option maxRecDepth 20000 in
set_option maxHeartbeats 4000000 in
theorem t_X10_insert_0 {p : Program} {l : Launch} {e : Env} {s : State} {m : MethodId} {args : Array Value} {below : List Frame} {meth : Method} {c : Code} {H : Heap} {locs : List Loc} {D : va_G} {tc : Nat → ClassId} {b0 : Nat} {ls : Array Slot} {G : Lay} {Qx : Int32 → Mem → Prop} {l0 : Nat} {l1 : Nat}  {σ : Mem} (C : Cx p s m args meth c cX10_insert RX10 5 D tc b0) (hr : meth.sig.returnType = (some FieldType.boolean)) (hS : va_S (AA b0) s.heap H locs) (hW : Wd G D tc b0 σ H) (hl : hL b0 ls 5 [some (.inr (.inr l0)), some (.inr (.inr l1)), none, none, none]) (h : X_X10_insert_0 G Qx l0 l1  σ) : W p l e rm_X10_insert s m args below meth c H locs 0 0 (MQ below (va_Qi Qx (fun u t => Pw G D tc b0 u t) (AA b0)) args s 0 0 (AA b0)) (F0 m 0 ls []) := by
  have hx := C.1
  have hb := C.2.1
  unfold X_X10_insert_0 at h
  refine x_aload_n C hl dX10_insert_0 rfl ?_
  have t1 := h.1
  replace h := h.2
  refine x_get C hW (t := 10) (k := 0) t1 kl_10 (by decide) fl_X10_43 (v := rv b0 (mR σ l0 0)) rfl dX10_insert_1 ?_
  refine x_aload_n C hl dX10_insert_4 rfl ?_
  have t2 := h.1
  replace h := h.2
  refine x_get C hW (t := 7) (k := 2) t2 kl_7 (by decide) fl_X10_198 (v := .int (mI σ l1 2)) rfl dX10_insert_5 ?_
  have t3 := h.1
  replace h := h.2
  refine y_i (x_run (As := [.int (mI σ l1 2)]) C hW hS (T_X5_isFull l (mR σ l0 0) (mI σ l1 2) σ _ h) t3 kl_5 (CW.of yv_X5_isFull ml_X10_201) ⟨rfl, rfl, ⟨by decide, by decide⟩, by decide, by decide⟩ rfl hl.1 rfl (by decide) dX10_insert_8) hS (fun w5 s4 H locs h hW hS => ?_)
  refine lv_if_eq hx hb dX10_insert_11 (tgt := 23) rfl (fun hc => ?_) (fun hc => ?_)
  · replace h := h.1 hc
    refine x_aload_n C hl dX10_insert_23 rfl ?_
    refine x_get C hW (t := 7) (k := 10) t2 kl_7 (by decide) fl_X10_112 (v := .int (mI s4 l1 10)) rfl dX10_insert_24 ?_
    refine lv_iconst (v := (-1 : Int32)) hx hb dX10_insert_27 (by decide) ?_
    refine lv_ixor hx hb dX10_insert_28 ?_
    refine x_istore_n C hl dX10_insert_29 (by decide) rfl (fun ls hl => ?_)
    refine x_aload_n C hl dX10_insert_30 rfl ?_
    refine x_aload_n C hl dX10_insert_31 rfl ?_
    refine x_iload_n C hl dX10_insert_32 rfl ?_
    refine y_i (x_run (As := [rv b0 l1, .int ((mI s4 l1 10) ^^^ (-1 : Int32))]) C hW hS (T_X10_keepsRules l l0 l1 ((mI s4 l1 10) ^^^ (-1 : Int32)) s4 _ h) t1 kl_10 (CW.of yv_X10_keepsRules ml_X10_204) ⟨rfl, rfl, ⟨by decide, by decide⟩, by decide, by decide⟩ rfl hl.1 rfl (by decide) dX10_insert_33) hS (fun w7 s6 H locs h hW hS => ?_)
    refine lv_if_ne hx hb dX10_insert_36 (tgt := 41) rfl (fun hc => ?_) (fun hc => ?_)
    · replace h := h.2 hc
      refine x_aload_n C hl dX10_insert_41 rfl ?_
      refine x_get C hW (t := 10) (k := 0) t1 kl_10 (by decide) fl_X10_43 (v := rv b0 (mR s6 l0 0)) rfl dX10_insert_42 ?_
      refine x_aload_n C hl dX10_insert_45 rfl ?_
      refine x_get C hW (t := 7) (k := 2) t2 kl_7 (by decide) fl_X10_198 (v := .int (mI s6 l1 2)) rfl dX10_insert_46 ?_
      refine x_aload_n C hl dX10_insert_49 rfl ?_
      refine x_get C hW (t := 7) (k := 3) t2 kl_7 (by decide) fl_X10_207 (v := .int (mI s6 l1 3)) rfl dX10_insert_50 ?_
      refine x_aload_n C hl dX10_insert_53 rfl ?_
      refine x_get C hW (t := 7) (k := 4) t2 kl_7 (by decide) fl_X10_165 (v := .int (mI s6 l1 4)) rfl dX10_insert_54 ?_
      have t8 := h.1
      replace h := h.2
      refine y_i (x_run (As := [.int (mI s6 l1 2), .int (mI s6 l1 3), .int (mI s6 l1 4)]) C hW hS (T_X5_add l (mR s6 l0 0) (mI s6 l1 2) (mI s6 l1 3) (mI s6 l1 4) s6 _ h) t8 kl_5 (CW.of yv_X5_add ml_X10_210) ⟨rfl, rfl, ⟨by decide, by decide⟩, by decide, by decide⟩ rfl hl.1 rfl (by decide) dX10_insert_57) hS (fun w10 s9 H locs h hW hS => ?_)
      refine x_istore_n C hl dX10_insert_60 (by decide) rfl (fun ls hl => ?_)
      refine lv_iconst (v := (0 : Int32)) hx hb dX10_insert_61 (by decide) ?_
      refine x_istore C hl dX10_insert_62 (by decide) rfl (fun ls hl => ?_)
      exact t_X10_insert_64 C hr hS hW (hl.keep [true, true, true, true, true] rfl) h
    · replace h := h.1 hc
      refine lv_iconst (v := (0 : Int32)) hx hb dX10_insert_39 (by decide) ?_
      exact r_z C hr hW hS h.1 h.2 dX10_insert_40
  · replace h := h.2 hc
    refine x_aload_n C hl dX10_insert_14 rfl ?_
    refine lv_iconst (v := (5 : Int32)) hx hb dX10_insert_15 (by decide) ?_
    refine x_aload_n C hl dX10_insert_16 rfl ?_
    refine lv_iconst (v := (-1 : Int32)) hx hb dX10_insert_17 (by decide) ?_
    refine lv_iconst (v := (-1 : Int32)) hx hb dX10_insert_18 (by decide) ?_
    refine y_i (x_run (As := [.int (5 : Int32), rv b0 l1, .int (-1 : Int32), .int (-1 : Int32)]) C hW hS (T_X10_breakOff l l0 (5 : Int32) l1 (-1 : Int32) (-1 : Int32) s4 _ h) t1 kl_10 (CW.of yv_X10_breakOff ml_X10_146) ⟨rfl, rfl, ⟨by decide, by decide⟩, by decide, by decide⟩ rfl hl.1 rfl (by decide) dX10_insert_19) hS (fun w12 s11 H locs h hW hS => ?_)
    exact r_z C hr hW hS h.1 h.2 dX10_insert_22
theorem T_X10_insert (l : Launch) {G : Lay} {D : va_G} {tc : Nat → ClassId} {b0 : Nat} (l0 : Nat) (l1 : Nat) (σ : Mem) (Qx : Int32 → Mem → Prop) (h : X_X10_insert G Qx l0 l1 σ) : MI l yX10_insert cX10_insert 5 ((some FieldType.boolean)) rm_X10_insert G D tc b0 [rv b0 l0, rv b0 l1] σ Qx :=
  x_entry (y := yX10_insert) [.inr (.inr l0), .inr (.inr l1)] 3 (by decide) (Nat.le_of_ble_eq_true rfl) (fun p e s m args below meth c ls C hr hW hl => t_X10_insert_0 C hr va_S.rf hW (hl.keep [true, true, false, false, false] rfl) h)
/-! X10_insertAll -/
set_option maxRecDepth 20000 in
set_option maxHeartbeats 4000000 in
theorem t_X10_insertAll_8_n {p : Program} {l : Launch} {e : Env} {s : State} {m : MethodId} {args : Array Value} {below : List Frame} {meth : Method} {c : Code} {D : va_G} {tc : Nat → ClassId} {b0 : Nat} {G : Lay} {Qx : Int32 → Mem → Prop} {l0 : Nat} {l1 : Nat} {l2 : Int32} (C : Cx p s m args meth c cX10_insertAll RX10 5 D tc b0) (hr : meth.sig.returnType = (some FieldType.boolean)) (n : Nat) : ∀ (l3 : Int32) (σ : Mem) (H : Heap) (locs : List Loc) (ls : Array Slot), va_S (AA b0) s.heap H locs → Wd G D tc b0 σ H → hL b0 ls 5 [some (.inr (.inr l0)), some (.inr (.inr l1)), some (.inl l2), some (.inl l3), none] → Lp (X_X10_insertAll_8_s G Qx l0 l1 l2) n (l3, σ) → W p l e rm_X10_insertAll s m args below meth c H locs 0 0 (MQ below (va_Qi Qx (fun u t => Pw G D tc b0 u t) (AA b0)) args s 0 0 (AA b0)) (F0 m 8 ls []) := by
  have hx := C.1
  have hb := C.2.1
  induction n with
  | zero => intro l3 σ H locs ls hS hW hl h; exact False.elim h
  | succ n hK8 =>
    intro l3 σ H locs ls hS hW hl h
    replace h : X_X10_insertAll_8_s G Qx l0 l1 l2 (Lp (X_X10_insertAll_8_s G Qx l0 l1 l2) n) (l3, σ) := h
    unfold X_X10_insertAll_8_s at h
    refine x_iload_n C hl dX10_insertAll_8 rfl ?_
    refine x_iload_n C hl dX10_insertAll_9 rfl ?_
    refine lv_icmp_ge hx hb dX10_insertAll_10 (tgt := 55) rfl (fun hc => ?_) (fun hc => ?_)
    · replace h := h.1 hc
      refine lv_iconst (v := (1 : Int32)) hx hb dX10_insertAll_55 (by decide) ?_
      exact r_z C hr hW hS h.1 h.2 dX10_insertAll_56
    · replace h := h.2 hc
      refine x_aload_n C hl dX10_insertAll_13 rfl ?_
      refine x_aload_n C hl dX10_insertAll_14 rfl ?_
      have t1 := h.1
      replace h := h.2
      refine y_r (x_run (As := [rv b0 l1]) C hW hS (T_X10_nextInsert l l0 l1 σ _ h) t1 kl_10 (CW.of yv_X10_nextInsert ml_X10_138) ⟨rfl, rfl, ⟨by decide, by decide⟩, by decide, by decide⟩ rfl hl.1 rfl (by decide) dX10_insertAll_15) hS (fun w3 s2 H locs h hW hS => ?_)
      refine x_astore C hl dX10_insertAll_18 (by decide) rfl (fun ls hl => ?_)
      refine x_aload C hl dX10_insertAll_20 rfl ?_
      refine x_ifnonnull C dX10_insertAll_22 (tgt := 38) rfl (fun hc => ?_) (fun hc => ?_)
      · replace h := h.2 hc
        refine x_aload_n C hl dX10_insertAll_38 rfl ?_
        refine x_aload C hl dX10_insertAll_39 rfl ?_
        refine y_i (x_run (As := [rv b0 w3]) C hW hS (T_X10_insert l l0 w3 s2 _ h) t1 kl_10 (CW.of yv_X10_insert ml_X10_150) ⟨rfl, rfl, ⟨by decide, by decide⟩, by decide, by decide⟩ rfl hl.1 rfl (by decide) dX10_insertAll_41) hS (fun w5 s4 H locs h hW hS => ?_)
        refine lv_if_ne hx hb dX10_insertAll_44 (tgt := 49) rfl (fun hc => ?_) (fun hc => ?_)
        · replace h := h.2 hc
          refine x_iinc C hl dX10_insertAll_49 rfl (v := (1 : Int32)) (by decide) (by decide) rfl (fun ls hl => ?_)
          refine lv_goto hx hb dX10_insertAll_52 (tgt := 8) rfl ?_
          exact hK8 _ _ _ _ _ hS hW (hl.keep [true, true, true, true, false] rfl) h
        · replace h := h.1 hc
          refine lv_iconst (v := (0 : Int32)) hx hb dX10_insertAll_47 (by decide) ?_
          exact r_z C hr hW hS h.1 h.2 dX10_insertAll_48
      · replace h := h.1 hc
        refine x_aload_n C hl dX10_insertAll_25 rfl ?_
        refine lv_iconst (v := (4 : Int32)) hx hb dX10_insertAll_26 (by decide) ?_
        refine x_aload_n C hl dX10_insertAll_27 rfl ?_
        refine lv_iconst (v := (2 : Int32)) hx hb dX10_insertAll_28 (by decide) ?_
        refine y_r (x_run (As := [.int (2 : Int32)]) C hW hS (T_X10_firstUnwritten l l0 (2 : Int32) s2 _ h) t1 kl_10 (CW.of yv_X10_firstUnwritten ml_X10_142) ⟨rfl, rfl, ⟨by decide, by decide⟩, by decide, by decide⟩ rfl hl.1 rfl (by simp [rv_cat, cat_i, cat_l]) dX10_insertAll_29) hS (fun w7 s6 H locs h hW hS => ?_)
        refine lv_iconst (v := (-1 : Int32)) hx hb dX10_insertAll_32 (by decide) ?_
        refine lv_iconst (v := (-1 : Int32)) hx hb dX10_insertAll_33 (by decide) ?_
        refine y_i (x_run (As := [.int (4 : Int32), rv b0 w7, .int (-1 : Int32), .int (-1 : Int32)]) C hW hS (T_X10_breakOff l l0 (4 : Int32) w7 (-1 : Int32) (-1 : Int32) s6 _ h) t1 kl_10 (CW.of yv_X10_breakOff ml_X10_146) ⟨rfl, rfl, ⟨by decide, by decide⟩, by decide, by decide⟩ rfl hl.1 rfl (by decide) dX10_insertAll_34) hS (fun w9 s8 H locs h hW hS => ?_)
        exact r_z C hr hW hS h.1 h.2 dX10_insertAll_37
set_option maxRecDepth 20000 in
set_option maxHeartbeats 4000000 in
theorem t_X10_insertAll_8 {p : Program} {l : Launch} {e : Env} {s : State} {m : MethodId} {args : Array Value} {below : List Frame} {meth : Method} {c : Code} {H : Heap} {locs : List Loc} {D : va_G} {tc : Nat → ClassId} {b0 : Nat} {ls : Array Slot} {G : Lay} {Qx : Int32 → Mem → Prop} {l0 : Nat} {l1 : Nat} {l2 : Int32} {l3 : Int32}  {σ : Mem} (C : Cx p s m args meth c cX10_insertAll RX10 5 D tc b0) (hr : meth.sig.returnType = (some FieldType.boolean)) (hS : va_S (AA b0) s.heap H locs) (hW : Wd G D tc b0 σ H) (hl : hL b0 ls 5 [some (.inr (.inr l0)), some (.inr (.inr l1)), some (.inl l2), some (.inl l3), none]) (h : X_X10_insertAll_8 G Qx l0 l1 l2 l3 σ) : W p l e rm_X10_insertAll s m args below meth c H locs 0 0 (MQ below (va_Qi Qx (fun u t => Pw G D tc b0 u t) (AA b0)) args s 0 0 (AA b0)) (F0 m 8 ls []) := by
  obtain ⟨n, h⟩ := h
  exact t_X10_insertAll_8_n C hr n l3 σ H locs ls hS hW hl h
set_option maxRecDepth 20000 in
set_option maxHeartbeats 4000000 in
theorem t_X10_insertAll_0 {p : Program} {l : Launch} {e : Env} {s : State} {m : MethodId} {args : Array Value} {below : List Frame} {meth : Method} {c : Code} {H : Heap} {locs : List Loc} {D : va_G} {tc : Nat → ClassId} {b0 : Nat} {ls : Array Slot} {G : Lay} {Qx : Int32 → Mem → Prop} {l0 : Nat} {l1 : Nat}  {σ : Mem} (C : Cx p s m args meth c cX10_insertAll RX10 5 D tc b0) (hr : meth.sig.returnType = (some FieldType.boolean)) (hS : va_S (AA b0) s.heap H locs) (hW : Wd G D tc b0 σ H) (hl : hL b0 ls 5 [some (.inr (.inr l0)), some (.inr (.inr l1)), none, none, none]) (h : X_X10_insertAll_0 G Qx l0 l1  σ) : W p l e rm_X10_insertAll s m args below meth c H locs 0 0 (MQ below (va_Qi Qx (fun u t => Pw G D tc b0 u t) (AA b0)) args s 0 0 (AA b0)) (F0 m 0 ls []) := by
  have hx := C.1
  have hb := C.2.1
  unfold X_X10_insertAll_0 at h
  refine x_aload_n C hl dX10_insertAll_0 rfl ?_
  refine lv_iconst (v := (2 : Int32)) hx hb dX10_insertAll_1 (by decide) ?_
  have t1 := h.1
  replace h := h.2
  refine y_i (x_run (As := [.int (2 : Int32)]) C hW hS (T_X10_countIn l l0 (2 : Int32) σ _ h) t1 kl_10 (CW.of yv_X10_countIn ml_X10_134) ⟨rfl, rfl, ⟨by decide, by decide⟩, by decide, by decide⟩ rfl hl.1 rfl (by decide) dX10_insertAll_2) hS (fun w3 s2 H locs h hW hS => ?_)
  refine x_istore_n C hl dX10_insertAll_5 (by decide) rfl (fun ls hl => ?_)
  refine lv_iconst (v := (0 : Int32)) hx hb dX10_insertAll_6 (by decide) ?_
  refine x_istore_n C hl dX10_insertAll_7 (by decide) rfl (fun ls hl => ?_)
  exact t_X10_insertAll_8 C hr hS hW (hl.keep [true, true, true, true, false] rfl) h
theorem T_X10_insertAll (l : Launch) {G : Lay} {D : va_G} {tc : Nat → ClassId} {b0 : Nat} (l0 : Nat) (l1 : Nat) (σ : Mem) (Qx : Int32 → Mem → Prop) (h : X_X10_insertAll G Qx l0 l1 σ) : MI l yX10_insertAll cX10_insertAll 5 ((some FieldType.boolean)) rm_X10_insertAll G D tc b0 [rv b0 l0, rv b0 l1] σ Qx :=
  x_entry (y := yX10_insertAll) [.inr (.inr l0), .inr (.inr l1)] 3 (by decide) (Nat.le_of_ble_eq_true rfl) (fun p e s m args below meth c ls C hr hW hl => t_X10_insertAll_0 C hr va_S.rf hW (hl.keep [true, true, false, false, false] rfl) h)
/-! X10_nextDelete -/
set_option maxRecDepth 20000 in
set_option maxHeartbeats 4000000 in
theorem t_X10_nextDelete_53 {p : Program} {l : Launch} {e : Env} {s : State} {m : MethodId} {args : Array Value} {below : List Frame} {meth : Method} {c : Code} {H : Heap} {locs : List Loc} {D : va_G} {tc : Nat → ClassId} {b0 : Nat} {ls : Array Slot} {G : Lay} {Qx : Nat → Mem → Prop} {l0 : Nat} {l1 : Int32}  {K2 : Int32 × Mem → Prop} {σ : Mem} (C : Cx p s m args meth c cX10_nextDelete RX10 3 D tc b0) (hr : meth.sig.returnType = (some (FieldType.object "BeeRegister$Thing"))) (hK2 : ∀ (x1 : Int32) (σ : Mem) (H : Heap) (locs : List Loc) (ls : Array Slot), va_S (AA b0) s.heap H locs → Wd G D tc b0 σ H → hL b0 ls 3 [some (.inr (.inr l0)), some (.inl x1), none] → K2 (x1, σ) → W p l e rm_X10_nextDelete s m args below meth c H locs 0 0 (MQ below (va_Qq (fun o u => ∃ r, o = ro b0 r ∧ Qx r u) (fun u t => Pw G D tc b0 u t) (AA b0)) args s 0 0 (AA b0)) (F0 m 2 ls [])) (hS : va_S (AA b0) s.heap H locs) (hW : Wd G D tc b0 σ H) (hl : hL b0 ls 3 [some (.inr (.inr l0)), some (.inl l1), none]) (h : X_X10_nextDelete_53 G Qx K2 l0 l1  σ) : W p l e rm_X10_nextDelete s m args below meth c H locs 0 0 (MQ below (va_Qq (fun o u => ∃ r, o = ro b0 r ∧ Qx r u) (fun u t => Pw G D tc b0 u t) (AA b0)) args s 0 0 (AA b0)) (F0 m 53 ls []) := by
  have hx := C.1
  have hb := C.2.1
  unfold X_X10_nextDelete_53 at h
  refine x_iinc C hl dX10_nextDelete_53 rfl (v := (1 : Int32)) (by decide) (by decide) rfl (fun ls hl => ?_)
  refine lv_goto hx hb dX10_nextDelete_56 (tgt := 2) rfl ?_
  exact hK2 _ _ _ _ _ hS hW (hl.keep [true, true, false] rfl) h
set_option maxRecDepth 20000 in
set_option maxHeartbeats 4000000 in
theorem t_X10_nextDelete_2_n {p : Program} {l : Launch} {e : Env} {s : State} {m : MethodId} {args : Array Value} {below : List Frame} {meth : Method} {c : Code} {D : va_G} {tc : Nat → ClassId} {b0 : Nat} {G : Lay} {Qx : Nat → Mem → Prop} {l0 : Nat} (C : Cx p s m args meth c cX10_nextDelete RX10 3 D tc b0) (hr : meth.sig.returnType = (some (FieldType.object "BeeRegister$Thing"))) (n : Nat) : ∀ (l1 : Int32) (σ : Mem) (H : Heap) (locs : List Loc) (ls : Array Slot), va_S (AA b0) s.heap H locs → Wd G D tc b0 σ H → hL b0 ls 3 [some (.inr (.inr l0)), some (.inl l1), none] → Lp (X_X10_nextDelete_2_s G Qx l0) n (l1, σ) → W p l e rm_X10_nextDelete s m args below meth c H locs 0 0 (MQ below (va_Qq (fun o u => ∃ r, o = ro b0 r ∧ Qx r u) (fun u t => Pw G D tc b0 u t) (AA b0)) args s 0 0 (AA b0)) (F0 m 2 ls []) := by
  have hx := C.1
  have hb := C.2.1
  induction n with
  | zero => intro l1 σ H locs ls hS hW hl h; exact False.elim h
  | succ n hK2 =>
    intro l1 σ H locs ls hS hW hl h
    replace h : X_X10_nextDelete_2_s G Qx l0 (Lp (X_X10_nextDelete_2_s G Qx l0) n) (l1, σ) := h
    unfold X_X10_nextDelete_2_s at h
    refine x_iload_n C hl dX10_nextDelete_2 rfl ?_
    refine x_aload_n C hl dX10_nextDelete_3 rfl ?_
    have t1 := h.1
    replace h := h.2
    refine x_get C hW (t := 10) (k := 3) t1 kl_10 (by decide) fl_X10_100 (v := .int (mI σ l0 3)) rfl dX10_nextDelete_4 ?_
    refine lv_icmp_ge hx hb dX10_nextDelete_7 (tgt := 59) rfl (fun hc => ?_) (fun hc => ?_)
    · replace h := h.1 hc
      refine x_aload_n C hl dX10_nextDelete_59 rfl ?_
      refine lv_iconst (v := (3 : Int32)) hx hb dX10_nextDelete_60 (by decide) ?_
      refine y_r (x_run (As := [.int (3 : Int32)]) C hW hS (T_X10_firstUnwritten l l0 (3 : Int32) σ _ h) t1 kl_10 (CW.of yv_X10_firstUnwritten ml_X10_142) ⟨rfl, rfl, ⟨by decide, by decide⟩, by decide, by decide⟩ rfl hl.1 rfl (by decide) dX10_nextDelete_61) hS (fun w3 s2 H locs h hW hS => ?_)
      exact r_r C hr hW hS h dX10_nextDelete_64
    · replace h := h.2 hc
      refine x_aload_n C hl dX10_nextDelete_10 rfl ?_
      refine x_get C hW (t := 10) (k := 2) t1 kl_10 (by decide) fl_X10_11 (v := rv b0 (mR σ l0 2)) rfl dX10_nextDelete_11 ?_
      refine x_iload_n C hl dX10_nextDelete_14 rfl ?_
      have t4 := h.1
      replace h := h.2
      have v5 := h.1
      replace h := h.2
      refine x_aald C hW (t := 105) (t0 := 6) t4 (by decide) rfl v5 dX10_nextDelete_15 ?_
      refine x_astore_n C hl dX10_nextDelete_16 (by decide) rfl (fun ls hl => ?_)
      refine x_aload_n C hl dX10_nextDelete_17 rfl ?_
      have t6 := h.1
      replace h := h.2
      refine x_get C hW (t := 7) (k := 1) t6 kl_7 (by decide) fl_X10_118 (v := .int (mI σ (mR σ (mR σ l0 2) l1.toNatClampNeg) 1)) rfl dX10_nextDelete_18 ?_
      refine lv_iconst (v := (3 : Int32)) hx hb dX10_nextDelete_21 (by decide) ?_
      refine lv_icmp_ne hx hb dX10_nextDelete_22 (tgt := 53) rfl (fun hc => ?_) (fun hc => ?_)
      · replace h := h.2 hc
        exact t_X10_nextDelete_53 C hr hK2 hS hW (hl.keep [true, true, false] rfl) h
      · replace h := h.1 hc
        refine x_aload_n C hl dX10_nextDelete_25 rfl ?_
        refine x_get C hW (t := 7) (k := 9) t6 kl_7 (by decide) fl_X10_109 (v := .int (mI σ (mR σ (mR σ l0 2) l1.toNatClampNeg) 9)) rfl dX10_nextDelete_26 ?_
        refine lv_if_ne hx hb dX10_nextDelete_29 (tgt := 53) rfl (fun hc => ?_) (fun hc => ?_)
        · replace h := h.2 hc
          exact t_X10_nextDelete_53 C hr hK2 hS hW (hl.keep [true, true, false] rfl) h
        · replace h := h.1 hc
          refine x_aload_n C hl dX10_nextDelete_32 rfl ?_
          refine x_get C hW (t := 10) (k := 0) t1 kl_10 (by decide) fl_X10_43 (v := rv b0 (mR σ l0 0)) rfl dX10_nextDelete_33 ?_
          refine x_aload_n C hl dX10_nextDelete_36 rfl ?_
          refine x_get C hW (t := 7) (k := 2) t6 kl_7 (by decide) fl_X10_198 (v := .int (mI σ (mR σ (mR σ l0 2) l1.toNatClampNeg) 2)) rfl dX10_nextDelete_37 ?_
          refine x_aload_n C hl dX10_nextDelete_40 rfl ?_
          refine x_get C hW (t := 7) (k := 3) t6 kl_7 (by decide) fl_X10_207 (v := .int (mI σ (mR σ (mR σ l0 2) l1.toNatClampNeg) 3)) rfl dX10_nextDelete_41 ?_
          have t7 := h.1
          replace h := h.2
          refine y_i (x_run (As := [.int (mI σ (mR σ (mR σ l0 2) l1.toNatClampNeg) 2), .int (mI σ (mR σ (mR σ l0 2) l1.toNatClampNeg) 3)]) C hW hS (T_X5_leadingMember l (mR σ l0 0) (mI σ (mR σ (mR σ l0 2) l1.toNatClampNeg) 2) (mI σ (mR σ (mR σ l0 2) l1.toNatClampNeg) 3) σ _ h) t7 kl_5 (CW.of yv_X5_leadingMember ml_X10_250) ⟨rfl, rfl, ⟨by decide, by decide⟩, by decide, by decide⟩ rfl hl.1 rfl (by decide) dX10_nextDelete_44) hS (fun w9 s8 H locs h hW hS => ?_)
          refine lv_iconst (v := (-1 : Int32)) hx hb dX10_nextDelete_47 (by decide) ?_
          refine lv_icmp_ne hx hb dX10_nextDelete_48 (tgt := 53) rfl (fun hc => ?_) (fun hc => ?_)
          · replace h := h.2 hc
            exact t_X10_nextDelete_53 C hr hK2 hS hW (hl.keep [true, true, false] rfl) h
          · replace h := h.1 hc
            refine x_aload_n C hl dX10_nextDelete_51 rfl ?_
            exact r_r C hr hW hS h dX10_nextDelete_52
set_option maxRecDepth 20000 in
set_option maxHeartbeats 4000000 in
theorem t_X10_nextDelete_2 {p : Program} {l : Launch} {e : Env} {s : State} {m : MethodId} {args : Array Value} {below : List Frame} {meth : Method} {c : Code} {H : Heap} {locs : List Loc} {D : va_G} {tc : Nat → ClassId} {b0 : Nat} {ls : Array Slot} {G : Lay} {Qx : Nat → Mem → Prop} {l0 : Nat} {l1 : Int32}  {σ : Mem} (C : Cx p s m args meth c cX10_nextDelete RX10 3 D tc b0) (hr : meth.sig.returnType = (some (FieldType.object "BeeRegister$Thing"))) (hS : va_S (AA b0) s.heap H locs) (hW : Wd G D tc b0 σ H) (hl : hL b0 ls 3 [some (.inr (.inr l0)), some (.inl l1), none]) (h : X_X10_nextDelete_2 G Qx l0 l1 σ) : W p l e rm_X10_nextDelete s m args below meth c H locs 0 0 (MQ below (va_Qq (fun o u => ∃ r, o = ro b0 r ∧ Qx r u) (fun u t => Pw G D tc b0 u t) (AA b0)) args s 0 0 (AA b0)) (F0 m 2 ls []) := by
  obtain ⟨n, h⟩ := h
  exact t_X10_nextDelete_2_n C hr n l1 σ H locs ls hS hW hl h
set_option maxRecDepth 20000 in
set_option maxHeartbeats 4000000 in
theorem t_X10_nextDelete_0 {p : Program} {l : Launch} {e : Env} {s : State} {m : MethodId} {args : Array Value} {below : List Frame} {meth : Method} {c : Code} {H : Heap} {locs : List Loc} {D : va_G} {tc : Nat → ClassId} {b0 : Nat} {ls : Array Slot} {G : Lay} {Qx : Nat → Mem → Prop} {l0 : Nat}  {σ : Mem} (C : Cx p s m args meth c cX10_nextDelete RX10 3 D tc b0) (hr : meth.sig.returnType = (some (FieldType.object "BeeRegister$Thing"))) (hS : va_S (AA b0) s.heap H locs) (hW : Wd G D tc b0 σ H) (hl : hL b0 ls 3 [some (.inr (.inr l0)), none, none]) (h : X_X10_nextDelete_0 G Qx l0  σ) : W p l e rm_X10_nextDelete s m args below meth c H locs 0 0 (MQ below (va_Qq (fun o u => ∃ r, o = ro b0 r ∧ Qx r u) (fun u t => Pw G D tc b0 u t) (AA b0)) args s 0 0 (AA b0)) (F0 m 0 ls []) := by
  have hx := C.1
  have hb := C.2.1
  unfold X_X10_nextDelete_0 at h
  refine lv_iconst (v := (0 : Int32)) hx hb dX10_nextDelete_0 (by decide) ?_
  refine x_istore_n C hl dX10_nextDelete_1 (by decide) rfl (fun ls hl => ?_)
  exact t_X10_nextDelete_2 C hr hS hW (hl.keep [true, true, false] rfl) h
theorem T_X10_nextDelete (l : Launch) {G : Lay} {D : va_G} {tc : Nat → ClassId} {b0 : Nat} (l0 : Nat) (σ : Mem) (Qx : Nat → Mem → Prop) (h : X_X10_nextDelete G Qx l0 σ) : MR l yX10_nextDelete cX10_nextDelete 3 ((some (FieldType.object "BeeRegister$Thing"))) rm_X10_nextDelete G D tc b0 [rv b0 l0] σ Qx :=
  x_entry (y := yX10_nextDelete) [.inr (.inr l0)] 2 (by decide) (Nat.le_of_ble_eq_true rfl) (fun p e s m args below meth c ls C hr hW hl => t_X10_nextDelete_0 C hr va_S.rf hW (hl.keep [true, false, false] rfl) h)
/-! X10_delete -/
set_option maxRecDepth 20000 in
set_option maxHeartbeats 4000000 in
theorem t_X10_delete_37 {p : Program} {l : Launch} {e : Env} {s : State} {m : MethodId} {args : Array Value} {below : List Frame} {meth : Method} {c : Code} {H : Heap} {locs : List Loc} {D : va_G} {tc : Nat → ClassId} {b0 : Nat} {ls : Array Slot} {G : Lay} {Qx : Int32 → Mem → Prop} {l0 : Nat} {l1 : Nat}  {σ : Mem} (C : Cx p s m args meth c cX10_delete RX10 4 D tc b0) (hr : meth.sig.returnType = (some FieldType.boolean)) (hS : va_S (AA b0) s.heap H locs) (hW : Wd G D tc b0 σ H) (hl : hL b0 ls 4 [some (.inr (.inr l0)), some (.inr (.inr l1)), none, none]) (h : X_X10_delete_37 G Qx l0 l1  σ) : W p l e rm_X10_delete s m args below meth c H locs 0 0 (MQ below (va_Qi Qx (fun u t => Pw G D tc b0 u t) (AA b0)) args s 0 0 (AA b0)) (F0 m 37 ls []) := by
  have hx := C.1
  have hb := C.2.1
  unfold X_X10_delete_37 at h
  refine x_aload_n C hl dX10_delete_37 rfl ?_
  refine lv_iconst (v := (2 : Int32)) hx hb dX10_delete_38 (by decide) ?_
  refine x_aload_n C hl dX10_delete_39 rfl ?_
  refine lv_iconst (v := (-1 : Int32)) hx hb dX10_delete_40 (by decide) ?_
  refine lv_iconst (v := (-1 : Int32)) hx hb dX10_delete_41 (by decide) ?_
  have t1 := h.1
  replace h := h.2
  refine y_i (x_run (As := [.int (2 : Int32), rv b0 l1, .int (-1 : Int32), .int (-1 : Int32)]) C hW hS (T_X10_breakOff l l0 (2 : Int32) l1 (-1 : Int32) (-1 : Int32) σ _ h) t1 kl_10 (CW.of yv_X10_breakOff ml_X10_146) ⟨rfl, rfl, ⟨by decide, by decide⟩, by decide, by decide⟩ rfl hl.1 rfl (by decide) dX10_delete_42) hS (fun w3 s2 H locs h hW hS => ?_)
  exact r_z C hr hW hS h.1 h.2 dX10_delete_45
set_option maxRecDepth 20000 in
set_option maxHeartbeats 4000000 in
theorem t_X10_delete_0 {p : Program} {l : Launch} {e : Env} {s : State} {m : MethodId} {args : Array Value} {below : List Frame} {meth : Method} {c : Code} {H : Heap} {locs : List Loc} {D : va_G} {tc : Nat → ClassId} {b0 : Nat} {ls : Array Slot} {G : Lay} {Qx : Int32 → Mem → Prop} {l0 : Nat} {l1 : Nat}  {σ : Mem} (C : Cx p s m args meth c cX10_delete RX10 4 D tc b0) (hr : meth.sig.returnType = (some FieldType.boolean)) (hS : va_S (AA b0) s.heap H locs) (hW : Wd G D tc b0 σ H) (hl : hL b0 ls 4 [some (.inr (.inr l0)), some (.inr (.inr l1)), none, none]) (h : X_X10_delete_0 G Qx l0 l1  σ) : W p l e rm_X10_delete s m args below meth c H locs 0 0 (MQ below (va_Qi Qx (fun u t => Pw G D tc b0 u t) (AA b0)) args s 0 0 (AA b0)) (F0 m 0 ls []) := by
  have hx := C.1
  have hb := C.2.1
  unfold X_X10_delete_0 at h
  refine x_aload_n C hl dX10_delete_0 rfl ?_
  have t1 := h.1
  replace h := h.2
  refine x_get C hW (t := 10) (k := 0) t1 kl_10 (by decide) fl_X10_43 (v := rv b0 (mR σ l0 0)) rfl dX10_delete_1 ?_
  refine x_aload_n C hl dX10_delete_4 rfl ?_
  have t2 := h.1
  replace h := h.2
  refine x_get C hW (t := 7) (k := 2) t2 kl_7 (by decide) fl_X10_198 (v := .int (mI σ l1 2)) rfl dX10_delete_5 ?_
  refine x_aload_n C hl dX10_delete_8 rfl ?_
  refine x_get C hW (t := 7) (k := 3) t2 kl_7 (by decide) fl_X10_207 (v := .int (mI σ l1 3)) rfl dX10_delete_9 ?_
  have t3 := h.1
  replace h := h.2
  refine y_i (x_run (As := [.int (mI σ l1 2), .int (mI σ l1 3)]) C hW hS (T_X5_rowOf l (mR σ l0 0) (mI σ l1 2) (mI σ l1 3) σ _ h) t3 kl_5 (CW.of yv_X5_rowOf ml_X10_229) ⟨rfl, rfl, ⟨by decide, by decide⟩, by decide, by decide⟩ rfl hl.1 rfl (by decide) dX10_delete_12) hS (fun w5 s4 H locs h hW hS => ?_)
  refine x_istore_n C hl dX10_delete_15 (by decide) rfl (fun ls hl => ?_)
  refine x_iload_n C hl dX10_delete_16 rfl ?_
  refine lv_iconst (v := (-1 : Int32)) hx hb dX10_delete_17 (by decide) ?_
  refine lv_icmp_eq hx hb dX10_delete_18 (tgt := 37) rfl (fun hc => ?_) (fun hc => ?_)
  · replace h := h.1 hc
    exact t_X10_delete_37 C hr hS hW (hl.keep [true, true, false, false] rfl) h
  · replace h := h.2 hc
    refine x_aload_n C hl dX10_delete_21 rfl ?_
    refine x_get C hW (t := 10) (k := 0) t1 kl_10 (by decide) fl_X10_43 (v := rv b0 (mR s4 l0 0)) rfl dX10_delete_22 ?_
    have t6 := h.1
    replace h := h.2
    refine x_get C hW (t := 5) (k := 4) t6 kl_5 (by decide) fl_X10_233 (v := rv b0 (mR s4 (mR s4 l0 0) 4)) rfl dX10_delete_25 ?_
    refine x_iload_n C hl dX10_delete_28 rfl ?_
    have t7 := h.1
    replace h := h.2
    have v8 := h.1
    replace h := h.2
    refine x_iald C hW t7 v8 dX10_delete_29 ?_
    refine x_aload_n C hl dX10_delete_30 rfl ?_
    refine x_get C hW (t := 7) (k := 5) t2 kl_7 (by decide) fl_X10_236 (v := .int (mI s4 l1 5)) rfl dX10_delete_31 ?_
    refine lv_icmp_eq hx hb dX10_delete_34 (tgt := 46) rfl (fun hc => ?_) (fun hc => ?_)
    · replace h := h.1 hc
      refine x_aload_n C hl dX10_delete_46 rfl ?_
      refine x_get C hW (t := 10) (k := 0) t1 kl_10 (by decide) fl_X10_43 (v := rv b0 (mR s4 l0 0)) rfl dX10_delete_47 ?_
      refine x_aload_n C hl dX10_delete_50 rfl ?_
      refine x_get C hW (t := 7) (k := 2) t2 kl_7 (by decide) fl_X10_198 (v := .int (mI s4 l1 2)) rfl dX10_delete_51 ?_
      refine x_aload_n C hl dX10_delete_54 rfl ?_
      refine x_get C hW (t := 7) (k := 3) t2 kl_7 (by decide) fl_X10_207 (v := .int (mI s4 l1 3)) rfl dX10_delete_55 ?_
      refine y_i (x_run (As := [.int (mI s4 l1 2), .int (mI s4 l1 3)]) C hW hS (T_X5_leadingMember l (mR s4 l0 0) (mI s4 l1 2) (mI s4 l1 3) s4 _ h) t6 kl_5 (CW.of yv_X5_leadingMember ml_X10_250) ⟨rfl, rfl, ⟨by decide, by decide⟩, by decide, by decide⟩ rfl hl.1 rfl (by decide) dX10_delete_58) hS (fun w10 s9 H locs h hW hS => ?_)
      refine x_istore_n C hl dX10_delete_61 (by decide) rfl (fun ls hl => ?_)
      refine x_iload_n C hl dX10_delete_62 rfl ?_
      refine lv_iconst (v := (-1 : Int32)) hx hb dX10_delete_63 (by decide) ?_
      refine lv_icmp_eq hx hb dX10_delete_64 (tgt := 76) rfl (fun hc => ?_) (fun hc => ?_)
      · replace h := h.1 hc
        refine x_aload_n C hl dX10_delete_76 rfl ?_
        refine x_get C hW (t := 10) (k := 0) t1 kl_10 (by decide) fl_X10_43 (v := rv b0 (mR s9 l0 0)) rfl dX10_delete_77 ?_
        refine x_aload_n C hl dX10_delete_80 rfl ?_
        refine x_get C hW (t := 7) (k := 2) t2 kl_7 (by decide) fl_X10_198 (v := .int (mI s9 l1 2)) rfl dX10_delete_81 ?_
        refine x_iload_n C hl dX10_delete_84 rfl ?_
        have t11 := h.1
        replace h := h.2
        refine y_v (x_run (As := [.int (mI s9 l1 2), .int w5]) C hW hS (T_X5_remove l (mR s9 l0 0) (mI s9 l1 2) w5 s9 _ h) t11 kl_5 (CW.of yv_X5_remove ml_X10_253) ⟨rfl, rfl, ⟨by decide, by decide⟩, by decide, by decide⟩ rfl hl.1 rfl (by decide) dX10_delete_85) hS (fun s12 H locs h hW hS => ?_)
        refine x_aload_n C hl dX10_delete_88 rfl ?_
        refine lv_iconst (v := (1 : Int32)) hx hb dX10_delete_89 (by decide) ?_
        have b14 := h.1
        replace h := h.2
        refine x_putI C hW hS (t := 7) (k := 9) t2 kl_7 (by decide) fl_X10_109 rfl rfl (bz_n b14) (bz_f b14) dX10_delete_90 (fun H locs hW hS => ?_)
        obtain ⟨s13, e_s13⟩ : ∃ z : Mem, z = (sI s12 l1 9 (1 : Int32)) := ⟨_, rfl⟩
        replace h := h s13 e_s13
        replace hW : Wd G D tc b0 s13 H := by rw [e_s13]; exact hW
        refine x_aload_n C hl dX10_delete_93 rfl ?_
        refine lv_iconst (v := (2 : Int32)) hx hb dX10_delete_94 (by decide) ?_
        refine x_aload_n C hl dX10_delete_95 rfl ?_
        refine lv_iconst (v := (0 : Int32)) hx hb dX10_delete_96 (by decide) ?_
        refine y_v (x_run (As := [.int (2 : Int32), rv b0 l1, .int (0 : Int32)]) C hW hS (T_X10_noteWrite l l0 (2 : Int32) l1 (0 : Int32) s13 _ h) t1 kl_10 (CW.of yv_X10_noteWrite ml_X10_218) ⟨rfl, rfl, ⟨by decide, by decide⟩, by decide, by decide⟩ rfl hl.1 rfl (by decide) dX10_delete_97) hS (fun s15 H locs h hW hS => ?_)
        refine lv_iconst (v := (1 : Int32)) hx hb dX10_delete_100 (by decide) ?_
        exact r_z C hr hW hS h.1 h.2 dX10_delete_101
      · replace h := h.2 hc
        refine x_aload_n C hl dX10_delete_67 rfl ?_
        refine lv_iconst (v := (1 : Int32)) hx hb dX10_delete_68 (by decide) ?_
        refine x_aload_n C hl dX10_delete_69 rfl ?_
        refine x_iload_n C hl dX10_delete_70 rfl ?_
        refine lv_iconst (v := (2 : Int32)) hx hb dX10_delete_71 (by decide) ?_
        refine y_i (x_run (As := [.int (1 : Int32), rv b0 l1, .int w10, .int (2 : Int32)]) C hW hS (T_X10_breakOff l l0 (1 : Int32) l1 w10 (2 : Int32) s9 _ h) t1 kl_10 (CW.of yv_X10_breakOff ml_X10_146) ⟨rfl, rfl, ⟨by decide, by decide⟩, by decide, by decide⟩ rfl hl.1 rfl (by decide) dX10_delete_72) hS (fun w17 s16 H locs h hW hS => ?_)
        exact r_z C hr hW hS h.1 h.2 dX10_delete_75
    · replace h := h.2 hc
      exact t_X10_delete_37 C hr hS hW (hl.keep [true, true, false, false] rfl) h
theorem T_X10_delete (l : Launch) {G : Lay} {D : va_G} {tc : Nat → ClassId} {b0 : Nat} (l0 : Nat) (l1 : Nat) (σ : Mem) (Qx : Int32 → Mem → Prop) (h : X_X10_delete G Qx l0 l1 σ) : MI l yX10_delete cX10_delete 4 ((some FieldType.boolean)) rm_X10_delete G D tc b0 [rv b0 l0, rv b0 l1] σ Qx :=
  x_entry (y := yX10_delete) [.inr (.inr l0), .inr (.inr l1)] 2 (by decide) (Nat.le_of_ble_eq_true rfl) (fun p e s m args below meth c ls C hr hW hl => t_X10_delete_0 C hr va_S.rf hW (hl.keep [true, true, false, false] rfl) h)
/-! X10_deleteAll -/
set_option maxRecDepth 20000 in
set_option maxHeartbeats 4000000 in
theorem t_X10_deleteAll_32 {p : Program} {l : Launch} {e : Env} {s : State} {m : MethodId} {args : Array Value} {below : List Frame} {meth : Method} {c : Code} {H : Heap} {locs : List Loc} {D : va_G} {tc : Nat → ClassId} {b0 : Nat} {ls : Array Slot} {G : Lay} {Qx : Int32 → Mem → Prop} {l0 : Nat} {l1 : Int32} {l2 : Int32}  {K8 : Int32 × Mem → Prop} {σ : Mem} (C : Cx p s m args meth c cX10_deleteAll RX10 4 D tc b0) (hr : meth.sig.returnType = (some FieldType.boolean)) (hK8 : ∀ (x2 : Int32) (σ : Mem) (H : Heap) (locs : List Loc) (ls : Array Slot), va_S (AA b0) s.heap H locs → Wd G D tc b0 σ H → hL b0 ls 4 [some (.inr (.inr l0)), some (.inl l1), some (.inl x2), none] → K8 (x2, σ) → W p l e rm_X10_deleteAll s m args below meth c H locs 0 0 (MQ below (va_Qi Qx (fun u t => Pw G D tc b0 u t) (AA b0)) args s 0 0 (AA b0)) (F0 m 8 ls [])) (hS : va_S (AA b0) s.heap H locs) (hW : Wd G D tc b0 σ H) (hl : hL b0 ls 4 [some (.inr (.inr l0)), some (.inl l1), some (.inl l2), none]) (h : X_X10_deleteAll_32 G Qx K8 l0 l1 l2  σ) : W p l e rm_X10_deleteAll s m args below meth c H locs 0 0 (MQ below (va_Qi Qx (fun u t => Pw G D tc b0 u t) (AA b0)) args s 0 0 (AA b0)) (F0 m 32 ls []) := by
  have hx := C.1
  have hb := C.2.1
  unfold X_X10_deleteAll_32 at h
  refine x_iinc C hl dX10_deleteAll_32 rfl (v := (1 : Int32)) (by decide) (by decide) rfl (fun ls hl => ?_)
  refine lv_goto hx hb dX10_deleteAll_35 (tgt := 8) rfl ?_
  exact hK8 _ _ _ _ _ hS hW (hl.keep [true, true, true, false] rfl) h
set_option maxRecDepth 20000 in
set_option maxHeartbeats 4000000 in
theorem t_X10_deleteAll_8_n {p : Program} {l : Launch} {e : Env} {s : State} {m : MethodId} {args : Array Value} {below : List Frame} {meth : Method} {c : Code} {D : va_G} {tc : Nat → ClassId} {b0 : Nat} {G : Lay} {Qx : Int32 → Mem → Prop} {l0 : Nat} {l1 : Int32} (C : Cx p s m args meth c cX10_deleteAll RX10 4 D tc b0) (hr : meth.sig.returnType = (some FieldType.boolean)) (n : Nat) : ∀ (l2 : Int32) (σ : Mem) (H : Heap) (locs : List Loc) (ls : Array Slot), va_S (AA b0) s.heap H locs → Wd G D tc b0 σ H → hL b0 ls 4 [some (.inr (.inr l0)), some (.inl l1), some (.inl l2), none] → Lp (X_X10_deleteAll_8_s G Qx l0 l1) n (l2, σ) → W p l e rm_X10_deleteAll s m args below meth c H locs 0 0 (MQ below (va_Qi Qx (fun u t => Pw G D tc b0 u t) (AA b0)) args s 0 0 (AA b0)) (F0 m 8 ls []) := by
  have hx := C.1
  have hb := C.2.1
  induction n with
  | zero => intro l2 σ H locs ls hS hW hl h; exact False.elim h
  | succ n hK8 =>
    intro l2 σ H locs ls hS hW hl h
    replace h : X_X10_deleteAll_8_s G Qx l0 l1 (Lp (X_X10_deleteAll_8_s G Qx l0 l1) n) (l2, σ) := h
    unfold X_X10_deleteAll_8_s at h
    refine x_iload_n C hl dX10_deleteAll_8 rfl ?_
    refine x_iload_n C hl dX10_deleteAll_9 rfl ?_
    refine lv_icmp_ge hx hb dX10_deleteAll_10 (tgt := 38) rfl (fun hc => ?_) (fun hc => ?_)
    · replace h := h.1 hc
      refine lv_iconst (v := (1 : Int32)) hx hb dX10_deleteAll_38 (by decide) ?_
      exact r_z C hr hW hS h.1 h.2 dX10_deleteAll_39
    · replace h := h.2 hc
      refine x_aload_n C hl dX10_deleteAll_13 rfl ?_
      have t1 := h.1
      replace h := h.2
      refine y_r (x_run (As := []) C hW hS (T_X10_nextDelete l l0 σ _ h) t1 kl_10 (CW.of yv_X10_nextDelete ml_X10_243) ⟨rfl, rfl, ⟨by decide, by decide⟩, by decide, by decide⟩ rfl hl.1 rfl (by decide) dX10_deleteAll_14) hS (fun w3 s2 H locs h hW hS => ?_)
      refine x_astore_n C hl dX10_deleteAll_17 (by decide) rfl (fun ls hl => ?_)
      refine x_aload_n C hl dX10_deleteAll_18 rfl ?_
      refine x_ifnull C dX10_deleteAll_19 (tgt := 32) rfl (fun hc => ?_) (fun hc => ?_)
      · replace h := h.1 hc
        exact t_X10_deleteAll_32 C hr hK8 hS hW (hl.keep [true, true, true, false] rfl) h
      · replace h := h.2 hc
        refine x_aload_n C hl dX10_deleteAll_22 rfl ?_
        refine x_aload_n C hl dX10_deleteAll_23 rfl ?_
        refine y_i (x_run (As := [rv b0 w3]) C hW hS (T_X10_delete l l0 w3 s2 _ h) t1 kl_10 (CW.of yv_X10_delete ml_X10_247) ⟨rfl, rfl, ⟨by decide, by decide⟩, by decide, by decide⟩ rfl hl.1 rfl (by decide) dX10_deleteAll_24) hS (fun w5 s4 H locs h hW hS => ?_)
        refine lv_if_ne hx hb dX10_deleteAll_27 (tgt := 32) rfl (fun hc => ?_) (fun hc => ?_)
        · replace h := h.2 hc
          exact t_X10_deleteAll_32 C hr hK8 hS hW (hl.keep [true, true, true, false] rfl) h
        · replace h := h.1 hc
          refine lv_iconst (v := (0 : Int32)) hx hb dX10_deleteAll_30 (by decide) ?_
          exact r_z C hr hW hS h.1 h.2 dX10_deleteAll_31
set_option maxRecDepth 20000 in
set_option maxHeartbeats 4000000 in
theorem t_X10_deleteAll_8 {p : Program} {l : Launch} {e : Env} {s : State} {m : MethodId} {args : Array Value} {below : List Frame} {meth : Method} {c : Code} {H : Heap} {locs : List Loc} {D : va_G} {tc : Nat → ClassId} {b0 : Nat} {ls : Array Slot} {G : Lay} {Qx : Int32 → Mem → Prop} {l0 : Nat} {l1 : Int32} {l2 : Int32}  {σ : Mem} (C : Cx p s m args meth c cX10_deleteAll RX10 4 D tc b0) (hr : meth.sig.returnType = (some FieldType.boolean)) (hS : va_S (AA b0) s.heap H locs) (hW : Wd G D tc b0 σ H) (hl : hL b0 ls 4 [some (.inr (.inr l0)), some (.inl l1), some (.inl l2), none]) (h : X_X10_deleteAll_8 G Qx l0 l1 l2 σ) : W p l e rm_X10_deleteAll s m args below meth c H locs 0 0 (MQ below (va_Qi Qx (fun u t => Pw G D tc b0 u t) (AA b0)) args s 0 0 (AA b0)) (F0 m 8 ls []) := by
  obtain ⟨n, h⟩ := h
  exact t_X10_deleteAll_8_n C hr n l2 σ H locs ls hS hW hl h
set_option maxRecDepth 20000 in
set_option maxHeartbeats 4000000 in
theorem t_X10_deleteAll_0 {p : Program} {l : Launch} {e : Env} {s : State} {m : MethodId} {args : Array Value} {below : List Frame} {meth : Method} {c : Code} {H : Heap} {locs : List Loc} {D : va_G} {tc : Nat → ClassId} {b0 : Nat} {ls : Array Slot} {G : Lay} {Qx : Int32 → Mem → Prop} {l0 : Nat}  {σ : Mem} (C : Cx p s m args meth c cX10_deleteAll RX10 4 D tc b0) (hr : meth.sig.returnType = (some FieldType.boolean)) (hS : va_S (AA b0) s.heap H locs) (hW : Wd G D tc b0 σ H) (hl : hL b0 ls 4 [some (.inr (.inr l0)), none, none, none]) (h : X_X10_deleteAll_0 G Qx l0  σ) : W p l e rm_X10_deleteAll s m args below meth c H locs 0 0 (MQ below (va_Qi Qx (fun u t => Pw G D tc b0 u t) (AA b0)) args s 0 0 (AA b0)) (F0 m 0 ls []) := by
  have hx := C.1
  have hb := C.2.1
  unfold X_X10_deleteAll_0 at h
  refine x_aload_n C hl dX10_deleteAll_0 rfl ?_
  refine lv_iconst (v := (3 : Int32)) hx hb dX10_deleteAll_1 (by decide) ?_
  have t1 := h.1
  replace h := h.2
  refine y_i (x_run (As := [.int (3 : Int32)]) C hW hS (T_X10_countIn l l0 (3 : Int32) σ _ h) t1 kl_10 (CW.of yv_X10_countIn ml_X10_134) ⟨rfl, rfl, ⟨by decide, by decide⟩, by decide, by decide⟩ rfl hl.1 rfl (by decide) dX10_deleteAll_2) hS (fun w3 s2 H locs h hW hS => ?_)
  refine x_istore_n C hl dX10_deleteAll_5 (by decide) rfl (fun ls hl => ?_)
  refine lv_iconst (v := (0 : Int32)) hx hb dX10_deleteAll_6 (by decide) ?_
  refine x_istore_n C hl dX10_deleteAll_7 (by decide) rfl (fun ls hl => ?_)
  exact t_X10_deleteAll_8 C hr hS hW (hl.keep [true, true, true, false] rfl) h
theorem T_X10_deleteAll (l : Launch) {G : Lay} {D : va_G} {tc : Nat → ClassId} {b0 : Nat} (l0 : Nat) (σ : Mem) (Qx : Int32 → Mem → Prop) (h : X_X10_deleteAll G Qx l0 σ) : MI l yX10_deleteAll cX10_deleteAll 4 ((some FieldType.boolean)) rm_X10_deleteAll G D tc b0 [rv b0 l0] σ Qx :=
  x_entry (y := yX10_deleteAll) [.inr (.inr l0)] 3 (by decide) (Nat.le_of_ble_eq_true rfl) (fun p e s m args below meth c ls C hr hW hl => t_X10_deleteAll_0 C hr va_S.rf hW (hl.keep [true, false, false, false] rfl) h)
/-! X10_settle -/
set_option maxRecDepth 20000 in
set_option maxHeartbeats 4000000 in
theorem t_X10_settle_81 {p : Program} {l : Launch} {e : Env} {s : State} {m : MethodId} {args : Array Value} {below : List Frame} {meth : Method} {c : Code} {H : Heap} {locs : List Loc} {D : va_G} {tc : Nat → ClassId} {b0 : Nat} {ls : Array Slot} {G : Lay} {Qx : Mem → Prop} {l0 : Nat} {l1 : Int32}  {K2 : Int32 × Mem → Prop} {σ : Mem} (C : Cx p s m args meth c cX10_settle RX10 4 D tc b0) (hr : meth.sig.returnType = (none : Option FieldType)) (hK2 : ∀ (x1 : Int32) (σ : Mem) (H : Heap) (locs : List Loc) (ls : Array Slot), va_S (AA b0) s.heap H locs → Wd G D tc b0 σ H → hL b0 ls 4 [some (.inr (.inr l0)), some (.inl x1), none, none] → K2 (x1, σ) → W p l e rm_X10_settle s m args below meth c H locs 0 0 (MQ below (va_Qv Qx (fun u t => Pw G D tc b0 u t) (AA b0)) args s 0 0 (AA b0)) (F0 m 2 ls [])) (hS : va_S (AA b0) s.heap H locs) (hW : Wd G D tc b0 σ H) (hl : hL b0 ls 4 [some (.inr (.inr l0)), some (.inl l1), none, none]) (h : X_X10_settle_81 G Qx K2 l0 l1  σ) : W p l e rm_X10_settle s m args below meth c H locs 0 0 (MQ below (va_Qv Qx (fun u t => Pw G D tc b0 u t) (AA b0)) args s 0 0 (AA b0)) (F0 m 81 ls []) := by
  have hx := C.1
  have hb := C.2.1
  unfold X_X10_settle_81 at h
  refine x_iinc C hl dX10_settle_81 rfl (v := (1 : Int32)) (by decide) (by decide) rfl (fun ls hl => ?_)
  refine lv_goto hx hb dX10_settle_84 (tgt := 2) rfl ?_
  exact hK2 _ _ _ _ _ hS hW (hl.keep [true, true, false, false] rfl) h
set_option maxRecDepth 20000 in
set_option maxHeartbeats 4000000 in
theorem t_X10_settle_78 {p : Program} {l : Launch} {e : Env} {s : State} {m : MethodId} {args : Array Value} {below : List Frame} {meth : Method} {c : Code} {H : Heap} {locs : List Loc} {D : va_G} {tc : Nat → ClassId} {b0 : Nat} {ls : Array Slot} {G : Lay} {Qx : Mem → Prop} {l0 : Nat} {l1 : Int32} {k0 : Nat} {k1 : Int32} {K2 : Int32 × Mem → Prop} {σ : Mem} (C : Cx p s m args meth c cX10_settle RX10 4 D tc b0) (hr : meth.sig.returnType = (none : Option FieldType)) (hK2 : ∀ (x1 : Int32) (σ : Mem) (H : Heap) (locs : List Loc) (ls : Array Slot), va_S (AA b0) s.heap H locs → Wd G D tc b0 σ H → hL b0 ls 4 [some (.inr (.inr l0)), some (.inl x1), none, none] → K2 (x1, σ) → W p l e rm_X10_settle s m args below meth c H locs 0 0 (MQ below (va_Qv Qx (fun u t => Pw G D tc b0 u t) (AA b0)) args s 0 0 (AA b0)) (F0 m 2 ls [])) (hS : va_S (AA b0) s.heap H locs) (hW : Wd G D tc b0 σ H) (hl : hL b0 ls 4 [some (.inr (.inr l0)), some (.inl l1), none, none]) (h : X_X10_settle_78 G Qx K2 l0 l1 k0 k1 σ) : W p l e rm_X10_settle s m args below meth c H locs 0 0 (MQ below (va_Qv Qx (fun u t => Pw G D tc b0 u t) (AA b0)) args s 0 0 (AA b0)) (F0 m 78 ls [.int k1, rv b0 k0]) := by
  have hx := C.1
  have hb := C.2.1
  unfold X_X10_settle_78 at h
  have t1 := h.1
  replace h := h.2
  refine y_v (x_run (As := [.int k1]) C hW hS (T_X7_keepCopy l k0 k1 σ _ h) t1 kl_7 (CW.of yv_X7_keepCopy ml_X10_257) ⟨rfl, rfl, ⟨by decide, by decide⟩, by decide, by decide⟩ rfl hl.1 rfl (by decide) dX10_settle_78) hS (fun s2 H locs h hW hS => ?_)
  exact t_X10_settle_81 C hr hK2 hS hW (hl.keep [true, true, false, false] rfl) h
set_option maxRecDepth 20000 in
set_option maxHeartbeats 4000000 in
theorem t_X10_settle_2_n {p : Program} {l : Launch} {e : Env} {s : State} {m : MethodId} {args : Array Value} {below : List Frame} {meth : Method} {c : Code} {D : va_G} {tc : Nat → ClassId} {b0 : Nat} {G : Lay} {Qx : Mem → Prop} {l0 : Nat} (C : Cx p s m args meth c cX10_settle RX10 4 D tc b0) (hr : meth.sig.returnType = (none : Option FieldType)) (n : Nat) : ∀ (l1 : Int32) (σ : Mem) (H : Heap) (locs : List Loc) (ls : Array Slot), va_S (AA b0) s.heap H locs → Wd G D tc b0 σ H → hL b0 ls 4 [some (.inr (.inr l0)), some (.inl l1), none, none] → Lp (X_X10_settle_2_s G Qx l0) n (l1, σ) → W p l e rm_X10_settle s m args below meth c H locs 0 0 (MQ below (va_Qv Qx (fun u t => Pw G D tc b0 u t) (AA b0)) args s 0 0 (AA b0)) (F0 m 2 ls []) := by
  have hx := C.1
  have hb := C.2.1
  induction n with
  | zero => intro l1 σ H locs ls hS hW hl h; exact False.elim h
  | succ n hK2 =>
    intro l1 σ H locs ls hS hW hl h
    replace h : X_X10_settle_2_s G Qx l0 (Lp (X_X10_settle_2_s G Qx l0) n) (l1, σ) := h
    unfold X_X10_settle_2_s at h
    refine x_iload_n C hl dX10_settle_2 rfl ?_
    refine x_aload_n C hl dX10_settle_3 rfl ?_
    have t1 := h.1
    replace h := h.2
    refine x_get C hW (t := 10) (k := 3) t1 kl_10 (by decide) fl_X10_100 (v := .int (mI σ l0 3)) rfl dX10_settle_4 ?_
    refine lv_icmp_ge hx hb dX10_settle_7 (tgt := 87) rfl (fun hc => ?_) (fun hc => ?_)
    · replace h := h.1 hc
      exact r_v C hr hW hS h dX10_settle_87
    · replace h := h.2 hc
      refine x_aload_n C hl dX10_settle_10 rfl ?_
      refine x_get C hW (t := 10) (k := 2) t1 kl_10 (by decide) fl_X10_11 (v := rv b0 (mR σ l0 2)) rfl dX10_settle_11 ?_
      refine x_iload_n C hl dX10_settle_14 rfl ?_
      have t2 := h.1
      replace h := h.2
      have v3 := h.1
      replace h := h.2
      refine x_aald C hW (t := 105) (t0 := 6) t2 (by decide) rfl v3 dX10_settle_15 ?_
      refine x_astore_n C hl dX10_settle_16 (by decide) rfl (fun ls hl => ?_)
      refine x_aload_n C hl dX10_settle_17 rfl ?_
      have t4 := h.1
      replace h := h.2
      refine x_get C hW (t := 7) (k := 1) t4 kl_7 (by decide) fl_X10_118 (v := .int (mI σ (mR σ (mR σ l0 2) l1.toNatClampNeg) 1)) rfl dX10_settle_18 ?_
      refine lv_iconst (v := (3 : Int32)) hx hb dX10_settle_21 (by decide) ?_
      refine lv_icmp_ne hx hb dX10_settle_22 (tgt := 33) rfl (fun hc => ?_) (fun hc => ?_)
      · replace h := h.2 hc
        refine x_aload_n C hl dX10_settle_33 rfl ?_
        refine x_get C hW (t := 7) (k := 9) t4 kl_7 (by decide) fl_X10_109 (v := .int (mI σ (mR σ (mR σ l0 2) l1.toNatClampNeg) 9)) rfl dX10_settle_34 ?_
        refine lv_if_eq hx hb dX10_settle_37 (tgt := 81) rfl (fun hc => ?_) (fun hc => ?_)
        · replace h := h.1 hc
          exact t_X10_settle_81 C hr hK2 hS hW (hl.keep [true, true, false, false] rfl) h
        · replace h := h.2 hc
          refine x_aload_n C hl dX10_settle_40 rfl ?_
          refine x_get C hW (t := 10) (k := 0) t1 kl_10 (by decide) fl_X10_43 (v := rv b0 (mR σ l0 0)) rfl dX10_settle_41 ?_
          refine x_aload_n C hl dX10_settle_44 rfl ?_
          refine x_get C hW (t := 7) (k := 2) t4 kl_7 (by decide) fl_X10_198 (v := .int (mI σ (mR σ (mR σ l0 2) l1.toNatClampNeg) 2)) rfl dX10_settle_45 ?_
          refine x_aload_n C hl dX10_settle_48 rfl ?_
          refine x_get C hW (t := 7) (k := 3) t4 kl_7 (by decide) fl_X10_207 (v := .int (mI σ (mR σ (mR σ l0 2) l1.toNatClampNeg) 3)) rfl dX10_settle_49 ?_
          have t5 := h.1
          replace h := h.2
          refine y_i (x_run (As := [.int (mI σ (mR σ (mR σ l0 2) l1.toNatClampNeg) 2), .int (mI σ (mR σ (mR σ l0 2) l1.toNatClampNeg) 3)]) C hW hS (T_X5_rowOf l (mR σ l0 0) (mI σ (mR σ (mR σ l0 2) l1.toNatClampNeg) 2) (mI σ (mR σ (mR σ l0 2) l1.toNatClampNeg) 3) σ _ h) t5 kl_5 (CW.of yv_X5_rowOf ml_X10_229) ⟨rfl, rfl, ⟨by decide, by decide⟩, by decide, by decide⟩ rfl hl.1 rfl (by decide) dX10_settle_52) hS (fun w7 s6 H locs h hW hS => ?_)
          refine x_istore_n C hl dX10_settle_55 (by decide) rfl (fun ls hl => ?_)
          refine x_aload_n C hl dX10_settle_56 rfl ?_
          refine x_iload_n C hl dX10_settle_57 rfl ?_
          refine lv_iconst (v := (-1 : Int32)) hx hb dX10_settle_58 (by decide) ?_
          refine lv_icmp_ne hx hb dX10_settle_59 (tgt := 69) rfl (fun hc => ?_) (fun hc => ?_)
          · replace h := h.2 hc
            refine x_aload_n C hl dX10_settle_69 rfl ?_
            refine x_get C hW (t := 10) (k := 0) t1 kl_10 (by decide) fl_X10_43 (v := rv b0 (mR s6 l0 0)) rfl dX10_settle_70 ?_
            have t8 := h.1
            replace h := h.2
            refine x_get C hW (t := 5) (k := 4) t8 kl_5 (by decide) fl_X10_233 (v := rv b0 (mR s6 (mR s6 l0 0) 4)) rfl dX10_settle_73 ?_
            refine x_iload_n C hl dX10_settle_76 rfl ?_
            have t9 := h.1
            replace h := h.2
            have v10 := h.1
            replace h := h.2
            refine x_iald C hW t9 v10 dX10_settle_77 ?_
            exact t_X10_settle_78 C hr hK2 hS hW (hl.keep [true, true, false, false] rfl) h
          · replace h := h.1 hc
            refine x_aload_n C hl dX10_settle_62 rfl ?_
            refine x_get C hW (t := 7) (k := 5) t4 kl_7 (by decide) fl_X10_236 (v := .int (mI s6 (mR σ (mR σ l0 2) l1.toNatClampNeg) 5)) rfl dX10_settle_63 ?_
            refine lv_goto hx hb dX10_settle_66 (tgt := 78) rfl ?_
            exact t_X10_settle_78 C hr hK2 hS hW (hl.keep [true, true, false, false] rfl) h
      · replace h := h.1 hc
        refine x_aload_n C hl dX10_settle_25 rfl ?_
        refine lv_iconst (v := (4 : Int32)) hx hb dX10_settle_26 (by decide) ?_
        refine x_putI C hW hS (t := 7) (k := 1) t4 kl_7 (by decide) fl_X10_118 rfl rfl rfl rfl dX10_settle_27 (fun H locs hW hS => ?_)
        obtain ⟨s11, e_s11⟩ : ∃ z : Mem, z = (sI σ (mR σ (mR σ l0 2) l1.toNatClampNeg) 1 (4 : Int32)) := ⟨_, rfl⟩
        replace h := h s11 e_s11
        replace hW : Wd G D tc b0 s11 H := by rw [e_s11]; exact hW
        refine lv_goto hx hb dX10_settle_30 (tgt := 81) rfl ?_
        exact t_X10_settle_81 C hr hK2 hS hW (hl.keep [true, true, false, false] rfl) h
set_option maxRecDepth 20000 in
set_option maxHeartbeats 4000000 in
theorem t_X10_settle_2 {p : Program} {l : Launch} {e : Env} {s : State} {m : MethodId} {args : Array Value} {below : List Frame} {meth : Method} {c : Code} {H : Heap} {locs : List Loc} {D : va_G} {tc : Nat → ClassId} {b0 : Nat} {ls : Array Slot} {G : Lay} {Qx : Mem → Prop} {l0 : Nat} {l1 : Int32}  {σ : Mem} (C : Cx p s m args meth c cX10_settle RX10 4 D tc b0) (hr : meth.sig.returnType = (none : Option FieldType)) (hS : va_S (AA b0) s.heap H locs) (hW : Wd G D tc b0 σ H) (hl : hL b0 ls 4 [some (.inr (.inr l0)), some (.inl l1), none, none]) (h : X_X10_settle_2 G Qx l0 l1 σ) : W p l e rm_X10_settle s m args below meth c H locs 0 0 (MQ below (va_Qv Qx (fun u t => Pw G D tc b0 u t) (AA b0)) args s 0 0 (AA b0)) (F0 m 2 ls []) := by
  obtain ⟨n, h⟩ := h
  exact t_X10_settle_2_n C hr n l1 σ H locs ls hS hW hl h
set_option maxRecDepth 20000 in
set_option maxHeartbeats 4000000 in
theorem t_X10_settle_0 {p : Program} {l : Launch} {e : Env} {s : State} {m : MethodId} {args : Array Value} {below : List Frame} {meth : Method} {c : Code} {H : Heap} {locs : List Loc} {D : va_G} {tc : Nat → ClassId} {b0 : Nat} {ls : Array Slot} {G : Lay} {Qx : Mem → Prop} {l0 : Nat}  {σ : Mem} (C : Cx p s m args meth c cX10_settle RX10 4 D tc b0) (hr : meth.sig.returnType = (none : Option FieldType)) (hS : va_S (AA b0) s.heap H locs) (hW : Wd G D tc b0 σ H) (hl : hL b0 ls 4 [some (.inr (.inr l0)), none, none, none]) (h : X_X10_settle_0 G Qx l0  σ) : W p l e rm_X10_settle s m args below meth c H locs 0 0 (MQ below (va_Qv Qx (fun u t => Pw G D tc b0 u t) (AA b0)) args s 0 0 (AA b0)) (F0 m 0 ls []) := by
  have hx := C.1
  have hb := C.2.1
  unfold X_X10_settle_0 at h
  refine lv_iconst (v := (0 : Int32)) hx hb dX10_settle_0 (by decide) ?_
  refine x_istore_n C hl dX10_settle_1 (by decide) rfl (fun ls hl => ?_)
  exact t_X10_settle_2 C hr hS hW (hl.keep [true, true, false, false] rfl) h
theorem T_X10_settle (l : Launch) {G : Lay} {D : va_G} {tc : Nat → ClassId} {b0 : Nat} (l0 : Nat) (σ : Mem) (Qx : Mem → Prop) (h : X_X10_settle G Qx l0 σ) : MV l yX10_settle cX10_settle 4 ((none : Option FieldType)) rm_X10_settle G D tc b0 [rv b0 l0] σ Qx :=
  x_entry (y := yX10_settle) [.inr (.inr l0)] 3 (by decide) (Nat.le_of_ble_eq_true rfl) (fun p e s m args below meth c ls C hr hW hl => t_X10_settle_0 C hr va_S.rf hW (hl.keep [true, false, false, false] rfl) h)
/-! X11_feedNumber -/
set_option maxRecDepth 20000 in
set_option maxHeartbeats 4000000 in
theorem t_X11_feedNumber_40 {p : Program} {l : Launch} {e : Env} {s : State} {m : MethodId} {args : Array Value} {below : List Frame} {meth : Method} {c : Code} {H : Heap} {locs : List Loc} {D : va_G} {tc : Nat → ClassId} {b0 : Nat} {ls : Array Slot} {G : Lay} {Qx : Mem → Prop} {l0 : Nat} {l1 : Int32} {l2 : Int32}  {K3 : Int32 × Mem → Prop} {σ : Mem} (C : Cx p s m args meth c cX11_feedNumber RX11 3 D tc b0) (hr : meth.sig.returnType = (none : Option FieldType)) (hK3 : ∀ (x2 : Int32) (σ : Mem) (H : Heap) (locs : List Loc) (ls : Array Slot), va_S (AA b0) s.heap H locs → Wd G D tc b0 σ H → hL b0 ls 3 [some (.inr (.inr l0)), some (.inl l1), some (.inl x2)] → K3 (x2, σ) → W p l e rm_X11_feedNumber s m args below meth c H locs 0 0 (MQ below (va_Qv Qx (fun u t => Pw G D tc b0 u t) (AA b0)) args s 0 0 (AA b0)) (F0 m 3 ls [])) (hS : va_S (AA b0) s.heap H locs) (hW : Wd G D tc b0 σ H) (hl : hL b0 ls 3 [some (.inr (.inr l0)), some (.inl l1), some (.inl l2)]) (h : X_X11_feedNumber_40 G Qx K3 l0 l1 l2  σ) : W p l e rm_X11_feedNumber s m args below meth c H locs 0 0 (MQ below (va_Qv Qx (fun u t => Pw G D tc b0 u t) (AA b0)) args s 0 0 (AA b0)) (F0 m 40 ls []) := by
  have hx := C.1
  have hb := C.2.1
  unfold X_X11_feedNumber_40 at h
  refine x_iinc C hl dX11_feedNumber_40 rfl (v := (-8 : Int32)) (by decide) (by decide) rfl (fun ls hl => ?_)
  refine lv_goto hx hb dX11_feedNumber_43 (tgt := 3) rfl ?_
  exact hK3 _ _ _ _ _ hS hW (hl.keep [true, true, true] rfl) h
set_option maxRecDepth 20000 in
set_option maxHeartbeats 4000000 in
theorem t_X11_feedNumber_3_n {p : Program} {l : Launch} {e : Env} {s : State} {m : MethodId} {args : Array Value} {below : List Frame} {meth : Method} {c : Code} {D : va_G} {tc : Nat → ClassId} {b0 : Nat} {G : Lay} {Qx : Mem → Prop} {l0 : Nat} {l1 : Int32} (C : Cx p s m args meth c cX11_feedNumber RX11 3 D tc b0) (hr : meth.sig.returnType = (none : Option FieldType)) (n : Nat) : ∀ (l2 : Int32) (σ : Mem) (H : Heap) (locs : List Loc) (ls : Array Slot), va_S (AA b0) s.heap H locs → Wd G D tc b0 σ H → hL b0 ls 3 [some (.inr (.inr l0)), some (.inl l1), some (.inl l2)] → Lp (X_X11_feedNumber_3_s G Qx l0 l1) n (l2, σ) → W p l e rm_X11_feedNumber s m args below meth c H locs 0 0 (MQ below (va_Qv Qx (fun u t => Pw G D tc b0 u t) (AA b0)) args s 0 0 (AA b0)) (F0 m 3 ls []) := by
  have hx := C.1
  have hb := C.2.1
  induction n with
  | zero => intro l2 σ H locs ls hS hW hl h; exact False.elim h
  | succ n hK3 =>
    intro l2 σ H locs ls hS hW hl h
    replace h : X_X11_feedNumber_3_s G Qx l0 l1 (Lp (X_X11_feedNumber_3_s G Qx l0 l1) n) (l2, σ) := h
    unfold X_X11_feedNumber_3_s at h
    refine x_iload_n C hl dX11_feedNumber_3 rfl ?_
    refine lv_if_lt hx hb dX11_feedNumber_4 (tgt := 46) rfl (fun hc => ?_) (fun hc => ?_)
    · replace h := h.1 hc
      exact r_v C hr hW hS h dX11_feedNumber_46
    · replace h := h.2 hc
      refine x_aload_n C hl dX11_feedNumber_7 rfl ?_
      have t1 := h.1
      replace h := h.2
      refine x_get C hW (t := 11) (k := 1) t1 kl_11 (by decide) fl_X11_86 (v := .int (mI σ l0 1)) rfl dX11_feedNumber_8 ?_
      refine lv_sipush (v := (3000 : Int32)) hx hb dX11_feedNumber_11 (by decide) ?_
      refine lv_icmp_ge hx hb dX11_feedNumber_14 (tgt := 40) rfl (fun hc => ?_) (fun hc => ?_)
      · replace h := h.1 hc
        exact t_X11_feedNumber_40 C hr hK3 hS hW (hl.keep [true, true, true] rfl) h
      · replace h := h.2 hc
        refine x_aload_n C hl dX11_feedNumber_17 rfl ?_
        refine x_get C hW (t := 11) (k := 0) t1 kl_11 (by decide) fl_X11_9 (v := rv b0 (mR σ l0 0)) rfl dX11_feedNumber_18 ?_
        refine x_aload_n C hl dX11_feedNumber_21 rfl ?_
        refine x_get C hW (t := 11) (k := 1) t1 kl_11 (by decide) fl_X11_86 (v := .int (mI σ l0 1)) rfl dX11_feedNumber_22 ?_
        refine x_iload_n C hl dX11_feedNumber_25 rfl ?_
        refine x_iload_n C hl dX11_feedNumber_26 rfl ?_
        refine lv_ishr hx hb dX11_feedNumber_27 ?_
        refine lv_i2b hx hb dX11_feedNumber_28 rfl ?_
        have t2 := h.1
        replace h := h.2
        have v3 := h.1
        replace h := h.2
        refine x_bast C hW hS t2 v3 dX11_feedNumber_29 (fun H locs hW hS => ?_)
        obtain ⟨s4, e_s4⟩ : ∃ z : Mem, z = (sI σ (mR σ l0 0) (mI σ l0 1).toNatClampNeg (vp_nar .byte ((l1 >>> (l2 &&& 31)).toInt8.toInt32))) := ⟨_, rfl⟩
        replace h := h s4 e_s4
        replace hW : Wd G D tc b0 s4 H := by rw [e_s4]; exact hW
        refine x_aload_n C hl dX11_feedNumber_30 rfl ?_
        refine lv_dup hx hb dX11_feedNumber_31 (rv_cat _ _) ?_
        refine x_get C hW (t := 11) (k := 1) t1 kl_11 (by decide) fl_X11_86 (v := .int (mI s4 l0 1)) rfl dX11_feedNumber_32 ?_
        refine lv_iconst (v := (1 : Int32)) hx hb dX11_feedNumber_35 (by decide) ?_
        refine lv_iadd hx hb dX11_feedNumber_36 ?_
        refine x_putI C hW hS (t := 11) (k := 1) t1 kl_11 (by decide) fl_X11_86 rfl rfl rfl rfl dX11_feedNumber_37 (fun H locs hW hS => ?_)
        obtain ⟨s5, e_s5⟩ : ∃ z : Mem, z = (sI s4 l0 1 ((mI s4 l0 1) + (1 : Int32))) := ⟨_, rfl⟩
        replace h := h s5 e_s5
        replace hW : Wd G D tc b0 s5 H := by rw [e_s5]; exact hW
        exact t_X11_feedNumber_40 C hr hK3 hS hW (hl.keep [true, true, true] rfl) h
set_option maxRecDepth 20000 in
set_option maxHeartbeats 4000000 in
theorem t_X11_feedNumber_3 {p : Program} {l : Launch} {e : Env} {s : State} {m : MethodId} {args : Array Value} {below : List Frame} {meth : Method} {c : Code} {H : Heap} {locs : List Loc} {D : va_G} {tc : Nat → ClassId} {b0 : Nat} {ls : Array Slot} {G : Lay} {Qx : Mem → Prop} {l0 : Nat} {l1 : Int32} {l2 : Int32}  {σ : Mem} (C : Cx p s m args meth c cX11_feedNumber RX11 3 D tc b0) (hr : meth.sig.returnType = (none : Option FieldType)) (hS : va_S (AA b0) s.heap H locs) (hW : Wd G D tc b0 σ H) (hl : hL b0 ls 3 [some (.inr (.inr l0)), some (.inl l1), some (.inl l2)]) (h : X_X11_feedNumber_3 G Qx l0 l1 l2 σ) : W p l e rm_X11_feedNumber s m args below meth c H locs 0 0 (MQ below (va_Qv Qx (fun u t => Pw G D tc b0 u t) (AA b0)) args s 0 0 (AA b0)) (F0 m 3 ls []) := by
  obtain ⟨n, h⟩ := h
  exact t_X11_feedNumber_3_n C hr n l2 σ H locs ls hS hW hl h
set_option maxRecDepth 20000 in
set_option maxHeartbeats 4000000 in
theorem t_X11_feedNumber_0 {p : Program} {l : Launch} {e : Env} {s : State} {m : MethodId} {args : Array Value} {below : List Frame} {meth : Method} {c : Code} {H : Heap} {locs : List Loc} {D : va_G} {tc : Nat → ClassId} {b0 : Nat} {ls : Array Slot} {G : Lay} {Qx : Mem → Prop} {l0 : Nat} {l1 : Int32}  {σ : Mem} (C : Cx p s m args meth c cX11_feedNumber RX11 3 D tc b0) (hr : meth.sig.returnType = (none : Option FieldType)) (hS : va_S (AA b0) s.heap H locs) (hW : Wd G D tc b0 σ H) (hl : hL b0 ls 3 [some (.inr (.inr l0)), some (.inl l1), none]) (h : X_X11_feedNumber_0 G Qx l0 l1  σ) : W p l e rm_X11_feedNumber s m args below meth c H locs 0 0 (MQ below (va_Qv Qx (fun u t => Pw G D tc b0 u t) (AA b0)) args s 0 0 (AA b0)) (F0 m 0 ls []) := by
  have hx := C.1
  have hb := C.2.1
  unfold X_X11_feedNumber_0 at h
  refine lv_bipush (v := (24 : Int32)) hx hb dX11_feedNumber_0 (by decide) ?_
  refine x_istore_n C hl dX11_feedNumber_2 (by decide) rfl (fun ls hl => ?_)
  exact t_X11_feedNumber_3 C hr hS hW (hl.keep [true, true, true] rfl) h
theorem T_X11_feedNumber (l : Launch) {G : Lay} {D : va_G} {tc : Nat → ClassId} {b0 : Nat} (l0 : Nat) (l1 : Int32) (σ : Mem) (Qx : Mem → Prop) (h : X_X11_feedNumber G Qx l0 l1 σ) : MV l yX11_feedNumber cX11_feedNumber 3 ((none : Option FieldType)) rm_X11_feedNumber G D tc b0 [rv b0 l0, .int l1] σ Qx :=
  x_entry (y := yX11_feedNumber) [.inr (.inr l0), .inl l1] 1 (by decide) (Nat.le_of_ble_eq_true rfl) (fun p e s m args below meth c ls C hr hW hl => t_X11_feedNumber_0 C hr va_S.rf hW (hl.keep [true, true, false] rfl) h)
/-! X11_feed -/
set_option maxRecDepth 20000 in
set_option maxHeartbeats 4000000 in
theorem t_X11_feed_0 {p : Program} {l : Launch} {e : Env} {s : State} {m : MethodId} {args : Array Value} {below : List Frame} {meth : Method} {c : Code} {H : Heap} {locs : List Loc} {D : va_G} {tc : Nat → ClassId} {b0 : Nat} {ls : Array Slot} {G : Lay} {Qx : Int32 → Mem → Prop} {l0 : Nat} {l1 : Int32} {l2 : Int32} {l3 : Int32} {l4 : Int32} {l5 : Int32}  {σ : Mem} (C : Cx p s m args meth c cX11_feed RX11 6 D tc b0) (hr : meth.sig.returnType = (some FieldType.int)) (hS : va_S (AA b0) s.heap H locs) (hW : Wd G D tc b0 σ H) (hl : hL b0 ls 6 [some (.inr (.inr l0)), some (.inl l1), some (.inl l2), some (.inl l3), some (.inl l4), some (.inl l5)]) (h : X_X11_feed_0 G Qx l0 l1 l2 l3 l4 l5  σ) : W p l e rm_X11_feed s m args below meth c H locs 0 0 (MQ below (va_Qi Qx (fun u t => Pw G D tc b0 u t) (AA b0)) args s 0 0 (AA b0)) (F0 m 0 ls []) := by
  have hx := C.1
  have hb := C.2.1
  unfold X_X11_feed_0 at h
  refine x_aload_n C hl dX11_feed_0 rfl ?_
  have t1 := h.1
  replace h := h.2
  refine x_get C hW (t := 11) (k := 1) t1 kl_11 (by decide) fl_X11_86 (v := .int (mI σ l0 1)) rfl dX11_feed_1 ?_
  refine lv_bipush (v := (20 : Int32)) hx hb dX11_feed_4 (by decide) ?_
  refine lv_iadd hx hb dX11_feed_6 ?_
  refine lv_sipush (v := (3000 : Int32)) hx hb dX11_feed_7 (by decide) ?_
  refine lv_icmp_le hx hb dX11_feed_10 (tgt := 15) rfl (fun hc => ?_) (fun hc => ?_)
  · replace h := h.1 hc
    refine x_aload_n C hl dX11_feed_15 rfl ?_
    refine x_iload_n C hl dX11_feed_16 rfl ?_
    refine y_v (x_run (As := [.int l1]) C hW hS (T_X11_feedNumber l l0 l1 σ _ h) t1 kl_11 (CW.of yv_X11_feedNumber ml_X11_90) ⟨rfl, rfl, ⟨by decide, by decide⟩, by decide, by decide⟩ rfl hl.1 rfl (by decide) dX11_feed_17) hS (fun s2 H locs h hW hS => ?_)
    refine x_aload_n C hl dX11_feed_20 rfl ?_
    refine x_iload_n C hl dX11_feed_21 rfl ?_
    refine y_v (x_run (As := [.int l2]) C hW hS (T_X11_feedNumber l l0 l2 s2 _ h) t1 kl_11 (CW.of yv_X11_feedNumber ml_X11_90) ⟨rfl, rfl, ⟨by decide, by decide⟩, by decide, by decide⟩ rfl hl.1 rfl (by decide) dX11_feed_22) hS (fun s3 H locs h hW hS => ?_)
    refine x_aload_n C hl dX11_feed_25 rfl ?_
    refine x_iload_n C hl dX11_feed_26 rfl ?_
    refine y_v (x_run (As := [.int l3]) C hW hS (T_X11_feedNumber l l0 l3 s3 _ h) t1 kl_11 (CW.of yv_X11_feedNumber ml_X11_90) ⟨rfl, rfl, ⟨by decide, by decide⟩, by decide, by decide⟩ rfl hl.1 rfl (by decide) dX11_feed_27) hS (fun s4 H locs h hW hS => ?_)
    refine x_aload_n C hl dX11_feed_30 rfl ?_
    refine x_iload C hl dX11_feed_31 rfl ?_
    refine y_v (x_run (As := [.int l4]) C hW hS (T_X11_feedNumber l l0 l4 s4 _ h) t1 kl_11 (CW.of yv_X11_feedNumber ml_X11_90) ⟨rfl, rfl, ⟨by decide, by decide⟩, by decide, by decide⟩ rfl hl.1 rfl (by decide) dX11_feed_33) hS (fun s5 H locs h hW hS => ?_)
    refine x_aload_n C hl dX11_feed_36 rfl ?_
    refine x_iload C hl dX11_feed_37 rfl ?_
    refine y_v (x_run (As := [.int l5]) C hW hS (T_X11_feedNumber l l0 l5 s5 _ h) t1 kl_11 (CW.of yv_X11_feedNumber ml_X11_90) ⟨rfl, rfl, ⟨by decide, by decide⟩, by decide, by decide⟩ rfl hl.1 rfl (by decide) dX11_feed_39) hS (fun s6 H locs h hW hS => ?_)
    refine x_aload_n C hl dX11_feed_42 rfl ?_
    refine x_get C hW (t := 11) (k := 1) t1 kl_11 (by decide) fl_X11_86 (v := .int (mI s6 l0 1)) rfl dX11_feed_43 ?_
    exact r_i C hr hW hS h dX11_feed_46
  · replace h := h.2 hc
    refine lv_iconst (v := (-1 : Int32)) hx hb dX11_feed_13 (by decide) ?_
    exact r_i C hr hW hS h dX11_feed_14
theorem T_X11_feed (l : Launch) {G : Lay} {D : va_G} {tc : Nat → ClassId} {b0 : Nat} (l0 : Nat) (l1 : Int32) (l2 : Int32) (l3 : Int32) (l4 : Int32) (l5 : Int32) (σ : Mem) (Qx : Int32 → Mem → Prop) (h : X_X11_feed G Qx l0 l1 l2 l3 l4 l5 σ) : MI l yX11_feed cX11_feed 6 ((some FieldType.int)) rm_X11_feed G D tc b0 [rv b0 l0, .int l1, .int l2, .int l3, .int l4, .int l5] σ Qx :=
  x_entry (y := yX11_feed) [.inr (.inr l0), .inl l1, .inl l2, .inl l3, .inl l4, .inl l5] 0 (by decide) (Nat.le_of_ble_eq_true rfl) (fun p e s m args below meth c ls C hr hW hl => t_X11_feed_0 C hr va_S.rf hW (hl.keep [true, true, true, true, true, true] rfl) h)
/-! X11_end -/
set_option maxRecDepth 20000 in
set_option maxHeartbeats 4000000 in
theorem t_X11_end_12 {p : Program} {l : Launch} {e : Env} {s : State} {m : MethodId} {args : Array Value} {below : List Frame} {meth : Method} {c : Code} {H : Heap} {locs : List Loc} {D : va_G} {tc : Nat → ClassId} {b0 : Nat} {ls : Array Slot} {G : Lay} {Qx : Int32 → Mem → Prop}   {σ : Mem} (C : Cx p s m args meth c cX11_end RX11 2 D tc b0) (hr : meth.sig.returnType = (some FieldType.int)) (hS : va_S (AA b0) s.heap H locs) (hW : Wd G D tc b0 σ H) (hl : hL b0 ls 2 [none, none]) (h : X_X11_end_12 G Qx   σ) : W p l e rm_X11_end s m args below meth c H locs 0 0 (MQ below (va_Qi Qx (fun u t => Pw G D tc b0 u t) (AA b0)) args s 0 0 (AA b0)) (F0 m 12 ls []) := by
  have hx := C.1
  have hb := C.2.1
  unfold X_X11_end_12 at h
  refine lv_iconst (v := (-1 : Int32)) hx hb dX11_end_12 (by decide) ?_
  exact r_i C hr hW hS h dX11_end_13
set_option maxRecDepth 20000 in
set_option maxHeartbeats 4000000 in
theorem t_X11_end_0 {p : Program} {l : Launch} {e : Env} {s : State} {m : MethodId} {args : Array Value} {below : List Frame} {meth : Method} {c : Code} {H : Heap} {locs : List Loc} {D : va_G} {tc : Nat → ClassId} {b0 : Nat} {ls : Array Slot} {G : Lay} {Qx : Int32 → Mem → Prop} {l0 : Nat} {l1 : Int32}  {σ : Mem} (C : Cx p s m args meth c cX11_end RX11 2 D tc b0) (hr : meth.sig.returnType = (some FieldType.int)) (hS : va_S (AA b0) s.heap H locs) (hW : Wd G D tc b0 σ H) (hl : hL b0 ls 2 [some (.inr (.inr l0)), some (.inl l1)]) (h : X_X11_end_0 G Qx l0 l1  σ) : W p l e rm_X11_end s m args below meth c H locs 0 0 (MQ below (va_Qi Qx (fun u t => Pw G D tc b0 u t) (AA b0)) args s 0 0 (AA b0)) (F0 m 0 ls []) := by
  have hx := C.1
  have hb := C.2.1
  unfold X_X11_end_0 at h
  refine x_iload_n C hl dX11_end_0 rfl ?_
  refine lv_if_lt hx hb dX11_end_1 (tgt := 12) rfl (fun hc => ?_) (fun hc => ?_)
  · replace h := h.1 hc
    exact t_X11_end_12 C hr hS hW (hl.keep [false, false] rfl) h
  · replace h := h.2 hc
    refine x_iload_n C hl dX11_end_4 rfl ?_
    refine x_aload_n C hl dX11_end_5 rfl ?_
    have t1 := h.1
    replace h := h.2
    refine x_get C hW (t := 11) (k := 1) t1 kl_11 (by decide) fl_X11_86 (v := .int (mI σ l0 1)) rfl dX11_end_6 ?_
    refine lv_icmp_le hx hb dX11_end_9 (tgt := 14) rfl (fun hc => ?_) (fun hc => ?_)
    · replace h := h.1 hc
      refine x_aload_n C hl dX11_end_14 rfl ?_
      refine x_iload_n C hl dX11_end_15 rfl ?_
      refine x_putI C hW hS (t := 11) (k := 1) t1 kl_11 (by decide) fl_X11_86 rfl rfl rfl rfl dX11_end_16 (fun H locs hW hS => ?_)
      obtain ⟨s2, e_s2⟩ : ∃ z : Mem, z = (sI σ l0 1 l1) := ⟨_, rfl⟩
      replace h := h s2 e_s2
      replace hW : Wd G D tc b0 s2 H := by rw [e_s2]; exact hW
      refine x_iload_n C hl dX11_end_19 rfl ?_
      exact r_i C hr hW hS h dX11_end_20
    · replace h := h.2 hc
      exact t_X11_end_12 C hr hS hW (hl.keep [false, false] rfl) h
theorem T_X11_end (l : Launch) {G : Lay} {D : va_G} {tc : Nat → ClassId} {b0 : Nat} (l0 : Nat) (l1 : Int32) (σ : Mem) (Qx : Int32 → Mem → Prop) (h : X_X11_end G Qx l0 l1 σ) : MI l yX11_end cX11_end 2 ((some FieldType.int)) rm_X11_end G D tc b0 [rv b0 l0, .int l1] σ Qx :=
  x_entry (y := yX11_end) [.inr (.inr l0), .inl l1] 0 (by decide) (Nat.le_of_ble_eq_true rfl) (fun p e s m args below meth c ls C hr hW hl => t_X11_end_0 C hr va_S.rf hW (hl.keep [true, true] rfl) h)
/-! X11_beginAnew -/
set_option maxRecDepth 20000 in
set_option maxHeartbeats 4000000 in
theorem t_X11_beginAnew_32_n {p : Program} {l : Launch} {e : Env} {s : State} {m : MethodId} {args : Array Value} {below : List Frame} {meth : Method} {c : Code} {D : va_G} {tc : Nat → ClassId} {b0 : Nat} {G : Lay} {Qx : Mem → Prop} {l0 : Nat} (C : Cx p s m args meth c cX11_beginAnew RX11 2 D tc b0) (hr : meth.sig.returnType = (none : Option FieldType)) (n : Nat) : ∀ (l1 : Int32) (σ : Mem) (H : Heap) (locs : List Loc) (ls : Array Slot), va_S (AA b0) s.heap H locs → Wd G D tc b0 σ H → hL b0 ls 2 [some (.inr (.inr l0)), some (.inl l1)] → Lp (X_X11_beginAnew_32_s G Qx l0) n (l1, σ) → W p l e rm_X11_beginAnew s m args below meth c H locs 0 0 (MQ below (va_Qv Qx (fun u t => Pw G D tc b0 u t) (AA b0)) args s 0 0 (AA b0)) (F0 m 32 ls []) := by
  have hx := C.1
  have hb := C.2.1
  induction n with
  | zero => intro l1 σ H locs ls hS hW hl h; exact False.elim h
  | succ n hK32 =>
    intro l1 σ H locs ls hS hW hl h
    replace h : X_X11_beginAnew_32_s G Qx l0 (Lp (X_X11_beginAnew_32_s G Qx l0) n) (l1, σ) := h
    unfold X_X11_beginAnew_32_s at h
    refine x_iload_n C hl dX11_beginAnew_32 rfl ?_
    refine lv_bipush (v := (12 : Int32)) hx hb dX11_beginAnew_33 (by decide) ?_
    refine lv_icmp_ge hx hb dX11_beginAnew_35 (tgt := 51) rfl (fun hc => ?_) (fun hc => ?_)
    · replace h := h.1 hc
      refine x_aload_n C hl dX11_beginAnew_51 rfl ?_
      refine lv_iconst (v := (0 : Int32)) hx hb dX11_beginAnew_52 (by decide) ?_
      have t1 := h.1
      replace h := h.2
      refine x_putI C hW hS (t := 11) (k := 12) t1 kl_11 (by decide) fl_X11_306 rfl rfl rfl rfl dX11_beginAnew_53 (fun H locs hW hS => ?_)
      obtain ⟨s2, e_s2⟩ : ∃ z : Mem, z = (sI σ l0 12 (0 : Int32)) := ⟨_, rfl⟩
      replace h := h s2 e_s2
      replace hW : Wd G D tc b0 s2 H := by rw [e_s2]; exact hW
      exact r_v C hr hW hS h dX11_beginAnew_56
    · replace h := h.2 hc
      refine x_aload_n C hl dX11_beginAnew_38 rfl ?_
      have t3 := h.1
      replace h := h.2
      refine x_get C hW (t := 11) (k := 8) t3 kl_11 (by decide) fl_X11_61 (v := rv b0 (mR σ l0 8)) rfl dX11_beginAnew_39 ?_
      refine x_iload_n C hl dX11_beginAnew_42 rfl ?_
      refine lv_iconst (v := (0 : Int32)) hx hb dX11_beginAnew_43 (by decide) ?_
      have t4 := h.1
      replace h := h.2
      have v5 := h.1
      replace h := h.2
      refine x_iast C hW hS t4 v5 dX11_beginAnew_44 (fun H locs hW hS => ?_)
      obtain ⟨s6, e_s6⟩ : ∃ z : Mem, z = (sI σ (mR σ l0 8) l1.toNatClampNeg (0 : Int32)) := ⟨_, rfl⟩
      replace h := h s6 e_s6
      replace hW : Wd G D tc b0 s6 H := by rw [e_s6]; exact hW
      refine x_iinc C hl dX11_beginAnew_45 rfl (v := (1 : Int32)) (by decide) (by decide) rfl (fun ls hl => ?_)
      refine lv_goto hx hb dX11_beginAnew_48 (tgt := 32) rfl ?_
      exact hK32 _ _ _ _ _ hS hW (hl.keep [true, true] rfl) h
set_option maxRecDepth 20000 in
set_option maxHeartbeats 4000000 in
theorem t_X11_beginAnew_32 {p : Program} {l : Launch} {e : Env} {s : State} {m : MethodId} {args : Array Value} {below : List Frame} {meth : Method} {c : Code} {H : Heap} {locs : List Loc} {D : va_G} {tc : Nat → ClassId} {b0 : Nat} {ls : Array Slot} {G : Lay} {Qx : Mem → Prop} {l0 : Nat} {l1 : Int32}  {σ : Mem} (C : Cx p s m args meth c cX11_beginAnew RX11 2 D tc b0) (hr : meth.sig.returnType = (none : Option FieldType)) (hS : va_S (AA b0) s.heap H locs) (hW : Wd G D tc b0 σ H) (hl : hL b0 ls 2 [some (.inr (.inr l0)), some (.inl l1)]) (h : X_X11_beginAnew_32 G Qx l0 l1 σ) : W p l e rm_X11_beginAnew s m args below meth c H locs 0 0 (MQ below (va_Qv Qx (fun u t => Pw G D tc b0 u t) (AA b0)) args s 0 0 (AA b0)) (F0 m 32 ls []) := by
  obtain ⟨n, h⟩ := h
  exact t_X11_beginAnew_32_n C hr n l1 σ H locs ls hS hW hl h
set_option maxRecDepth 20000 in
set_option maxHeartbeats 4000000 in
theorem t_X11_beginAnew_9_n {p : Program} {l : Launch} {e : Env} {s : State} {m : MethodId} {args : Array Value} {below : List Frame} {meth : Method} {c : Code} {D : va_G} {tc : Nat → ClassId} {b0 : Nat} {G : Lay} {Qx : Mem → Prop} {l0 : Nat} (C : Cx p s m args meth c cX11_beginAnew RX11 2 D tc b0) (hr : meth.sig.returnType = (none : Option FieldType)) (n : Nat) : ∀ (l1 : Int32) (σ : Mem) (H : Heap) (locs : List Loc) (ls : Array Slot), va_S (AA b0) s.heap H locs → Wd G D tc b0 σ H → hL b0 ls 2 [some (.inr (.inr l0)), some (.inl l1)] → Lp (X_X11_beginAnew_9_s G Qx l0) n (l1, σ) → W p l e rm_X11_beginAnew s m args below meth c H locs 0 0 (MQ below (va_Qv Qx (fun u t => Pw G D tc b0 u t) (AA b0)) args s 0 0 (AA b0)) (F0 m 9 ls []) := by
  have hx := C.1
  have hb := C.2.1
  induction n with
  | zero => intro l1 σ H locs ls hS hW hl h; exact False.elim h
  | succ n hK9 =>
    intro l1 σ H locs ls hS hW hl h
    replace h : X_X11_beginAnew_9_s G Qx l0 (Lp (X_X11_beginAnew_9_s G Qx l0) n) (l1, σ) := h
    unfold X_X11_beginAnew_9_s at h
    refine x_iload_n C hl dX11_beginAnew_9 rfl ?_
    refine lv_iconst (v := (4 : Int32)) hx hb dX11_beginAnew_10 (by decide) ?_
    refine lv_icmp_ge hx hb dX11_beginAnew_11 (tgt := 30) rfl (fun hc => ?_) (fun hc => ?_)
    · replace h := h.1 hc
      refine lv_iconst (v := (0 : Int32)) hx hb dX11_beginAnew_30 (by decide) ?_
      refine x_istore_n C hl dX11_beginAnew_31 (by decide) rfl (fun ls hl => ?_)
      exact t_X11_beginAnew_32 C hr hS hW (hl.keep [true, true] rfl) h
    · replace h := h.2 hc
      refine x_aload_n C hl dX11_beginAnew_14 rfl ?_
      have t1 := h.1
      replace h := h.2
      refine x_get C hW (t := 11) (k := 9) t1 kl_11 (by decide) fl_X11_67 (v := rv b0 (mR σ l0 9)) rfl dX11_beginAnew_15 ?_
      refine x_iload_n C hl dX11_beginAnew_18 rfl ?_
      have t2 := h.1
      replace h := h.2
      have v3 := h.1
      replace h := h.2
      refine x_aald C hW (t := 106) (t0 := 7) t2 (by decide) rfl v3 dX11_beginAnew_19 ?_
      refine lv_iconst (v := (0 : Int32)) hx hb dX11_beginAnew_20 (by decide) ?_
      have t4 := h.1
      replace h := h.2
      have b6 := h.1
      replace h := h.2
      refine x_putI C hW hS (t := 9) (k := 4) t4 kl_9 (by decide) fl_X11_160 rfl rfl (bz_n b6) (bz_f b6) dX11_beginAnew_21 (fun H locs hW hS => ?_)
      obtain ⟨s5, e_s5⟩ : ∃ z : Mem, z = (sI σ (mR σ (mR σ l0 9) l1.toNatClampNeg) 4 (0 : Int32)) := ⟨_, rfl⟩
      replace h := h s5 e_s5
      replace hW : Wd G D tc b0 s5 H := by rw [e_s5]; exact hW
      refine x_iinc C hl dX11_beginAnew_24 rfl (v := (1 : Int32)) (by decide) (by decide) rfl (fun ls hl => ?_)
      refine lv_goto hx hb dX11_beginAnew_27 (tgt := 9) rfl ?_
      exact hK9 _ _ _ _ _ hS hW (hl.keep [true, true] rfl) h
set_option maxRecDepth 20000 in
set_option maxHeartbeats 4000000 in
theorem t_X11_beginAnew_9 {p : Program} {l : Launch} {e : Env} {s : State} {m : MethodId} {args : Array Value} {below : List Frame} {meth : Method} {c : Code} {H : Heap} {locs : List Loc} {D : va_G} {tc : Nat → ClassId} {b0 : Nat} {ls : Array Slot} {G : Lay} {Qx : Mem → Prop} {l0 : Nat} {l1 : Int32}  {σ : Mem} (C : Cx p s m args meth c cX11_beginAnew RX11 2 D tc b0) (hr : meth.sig.returnType = (none : Option FieldType)) (hS : va_S (AA b0) s.heap H locs) (hW : Wd G D tc b0 σ H) (hl : hL b0 ls 2 [some (.inr (.inr l0)), some (.inl l1)]) (h : X_X11_beginAnew_9 G Qx l0 l1 σ) : W p l e rm_X11_beginAnew s m args below meth c H locs 0 0 (MQ below (va_Qv Qx (fun u t => Pw G D tc b0 u t) (AA b0)) args s 0 0 (AA b0)) (F0 m 9 ls []) := by
  obtain ⟨n, h⟩ := h
  exact t_X11_beginAnew_9_n C hr n l1 σ H locs ls hS hW hl h
set_option maxRecDepth 20000 in
set_option maxHeartbeats 4000000 in
theorem t_X11_beginAnew_0 {p : Program} {l : Launch} {e : Env} {s : State} {m : MethodId} {args : Array Value} {below : List Frame} {meth : Method} {c : Code} {H : Heap} {locs : List Loc} {D : va_G} {tc : Nat → ClassId} {b0 : Nat} {ls : Array Slot} {G : Lay} {Qx : Mem → Prop} {l0 : Nat}  {σ : Mem} (C : Cx p s m args meth c cX11_beginAnew RX11 2 D tc b0) (hr : meth.sig.returnType = (none : Option FieldType)) (hS : va_S (AA b0) s.heap H locs) (hW : Wd G D tc b0 σ H) (hl : hL b0 ls 2 [some (.inr (.inr l0)), none]) (h : X_X11_beginAnew_0 G Qx l0  σ) : W p l e rm_X11_beginAnew s m args below meth c H locs 0 0 (MQ below (va_Qv Qx (fun u t => Pw G D tc b0 u t) (AA b0)) args s 0 0 (AA b0)) (F0 m 0 ls []) := by
  have hx := C.1
  have hb := C.2.1
  unfold X_X11_beginAnew_0 at h
  refine x_aload_n C hl dX11_beginAnew_0 rfl ?_
  have t1 := h.1
  replace h := h.2
  refine x_get C hW (t := 11) (k := 6) t1 kl_11 (by decide) fl_X11_53 (v := rv b0 (mR σ l0 6)) rfl dX11_beginAnew_1 ?_
  have t2 := h.1
  replace h := h.2
  refine y_v (x_run (As := []) C hW hS (T_X5_clear l (mR σ l0 6) σ _ h) t2 kl_5 (CW.of yv_X5_clear ml_X11_316) ⟨rfl, rfl, ⟨by decide, by decide⟩, by decide, by decide⟩ rfl hl.1 rfl (by decide) dX11_beginAnew_4) hS (fun s3 H locs h hW hS => ?_)
  refine lv_iconst (v := (0 : Int32)) hx hb dX11_beginAnew_7 (by decide) ?_
  refine x_istore_n C hl dX11_beginAnew_8 (by decide) rfl (fun ls hl => ?_)
  exact t_X11_beginAnew_9 C hr hS hW (hl.keep [true, true] rfl) h
theorem T_X11_beginAnew (l : Launch) {G : Lay} {D : va_G} {tc : Nat → ClassId} {b0 : Nat} (l0 : Nat) (σ : Mem) (Qx : Mem → Prop) (h : X_X11_beginAnew G Qx l0 σ) : MV l yX11_beginAnew cX11_beginAnew 2 ((none : Option FieldType)) rm_X11_beginAnew G D tc b0 [rv b0 l0] σ Qx :=
  x_entry (y := yX11_beginAnew) [.inr (.inr l0)] 1 (by decide) (Nat.le_of_ble_eq_true rfl) (fun p e s m args below meth c ls C hr hW hl => t_X11_beginAnew_0 C hr va_S.rf hW (hl.keep [true, false] rfl) h)
/-! X11_fault -/
set_option maxRecDepth 20000 in
set_option maxHeartbeats 4000000 in
theorem t_X11_fault_0 {p : Program} {l : Launch} {e : Env} {s : State} {m : MethodId} {args : Array Value} {below : List Frame} {meth : Method} {c : Code} {H : Heap} {locs : List Loc} {D : va_G} {tc : Nat → ClassId} {b0 : Nat} {ls : Array Slot} {G : Lay} {Qx : Int32 → Mem → Prop} {l0 : Nat} {l1 : Int32}  {σ : Mem} (C : Cx p s m args meth c cX11_fault RX11 2 D tc b0) (hr : meth.sig.returnType = (some FieldType.int)) (hS : va_S (AA b0) s.heap H locs) (hW : Wd G D tc b0 σ H) (hl : hL b0 ls 2 [some (.inr (.inr l0)), some (.inl l1)]) (h : X_X11_fault_0 G Qx l0 l1  σ) : W p l e rm_X11_fault s m args below meth c H locs 0 0 (MQ below (va_Qi Qx (fun u t => Pw G D tc b0 u t) (AA b0)) args s 0 0 (AA b0)) (F0 m 0 ls []) := by
  have hx := C.1
  have hb := C.2.1
  unfold X_X11_fault_0 at h
  refine x_iload_n C hl dX11_fault_0 rfl ?_
  by_cases hc0 : l1 = 0
  · replace h := h.1 hc0
    rw [hc0]
    refine lv_lookup hx hb dX11_fault_1 rfl (off := 27) rfl (tgt := 28) rfl ?_
    refine x_aload_n C hl dX11_fault_28 rfl ?_
    have t1 := h.1
    replace h := h.2
    refine x_get C hW (t := 11) (k := 2) t1 kl_11 (by decide) fl_X11_16 (v := rv b0 (mR σ l0 2)) rfl dX11_fault_29 ?_
    have t2 := h.1
    replace h := h.2
    refine x_get C hW (t := 8) (k := 5) t2 kl_8 (by decide) fl_X11_111 (v := .int (mI σ (mR σ l0 2) 5)) rfl dX11_fault_32 ?_
    exact r_i C hr hW hS h dX11_fault_35
  replace h := h.2
  by_cases hc1 : l1 = 1
  · replace h := h.1 hc1
    rw [hc1]
    refine lv_lookup hx hb dX11_fault_1 rfl (off := 35) rfl (tgt := 36) rfl ?_
    refine x_aload_n C hl dX11_fault_36 rfl ?_
    have t3 := h.1
    replace h := h.2
    refine x_get C hW (t := 11) (k := 2) t3 kl_11 (by decide) fl_X11_16 (v := rv b0 (mR σ l0 2)) rfl dX11_fault_37 ?_
    have t4 := h.1
    replace h := h.2
    refine x_get C hW (t := 8) (k := 6) t4 kl_8 (by decide) fl_X11_114 (v := .int (mI σ (mR σ l0 2) 6)) rfl dX11_fault_40 ?_
    exact r_i C hr hW hS h dX11_fault_43
  replace h := h.2
  replace h := h ⟨hc0, hc1⟩
  refine lv_lookup hx hb dX11_fault_1 rfl (off := 43) (lk_out_X11_fault_1 hc0 hc1) (tgt := 44) rfl ?_
  refine lv_iconst (v := (-1 : Int32)) hx hb dX11_fault_44 (by decide) ?_
  exact r_i C hr hW hS h dX11_fault_45
theorem T_X11_fault (l : Launch) {G : Lay} {D : va_G} {tc : Nat → ClassId} {b0 : Nat} (l0 : Nat) (l1 : Int32) (σ : Mem) (Qx : Int32 → Mem → Prop) (h : X_X11_fault G Qx l0 l1 σ) : MI l yX11_fault cX11_fault 2 ((some FieldType.int)) rm_X11_fault G D tc b0 [rv b0 l0, .int l1] σ Qx :=
  x_entry (y := yX11_fault) [.inr (.inr l0), .inl l1] 0 (by decide) (Nat.le_of_ble_eq_true rfl) (fun p e s m args below meth c ls C hr hW hl => t_X11_fault_0 C hr va_S.rf hW (hl.keep [true, true] rfl) h)
/-! X11_look -/
set_option maxRecDepth 20000 in
set_option maxHeartbeats 4000000 in
theorem t_X11_look_0 {p : Program} {l : Launch} {e : Env} {s : State} {m : MethodId} {args : Array Value} {below : List Frame} {meth : Method} {c : Code} {H : Heap} {locs : List Loc} {D : va_G} {tc : Nat → ClassId} {b0 : Nat} {ls : Array Slot} {G : Lay} {Qx : Int32 → Mem → Prop} {l0 : Nat} {l1 : Int32} {l2 : Int32}  {σ : Mem} (C : Cx p s m args meth c cX11_look RX11 4 D tc b0) (hr : meth.sig.returnType = (some FieldType.int)) (hS : va_S (AA b0) s.heap H locs) (hW : Wd G D tc b0 σ H) (hl : hL b0 ls 4 [some (.inr (.inr l0)), some (.inl l1), some (.inl l2), none]) (h : X_X11_look_0 G Qx l0 l1 l2  σ) : W p l e rm_X11_look s m args below meth c H locs 0 0 (MQ below (va_Qi Qx (fun u t => Pw G D tc b0 u t) (AA b0)) args s 0 0 (AA b0)) (F0 m 0 ls []) := by
  have hx := C.1
  have hb := C.2.1
  unfold X_X11_look_0 at h
  refine x_aload_n C hl dX11_look_0 rfl ?_
  have t1 := h.1
  replace h := h.2
  refine x_get C hW (t := 11) (k := 6) t1 kl_11 (by decide) fl_X11_53 (v := rv b0 (mR σ l0 6)) rfl dX11_look_1 ?_
  have t2 := h.1
  replace h := h.2
  refine x_get C hW (t := 5) (k := 0) t2 kl_5 (by decide) fl_X11_102 (v := rv b0 (mR σ (mR σ l0 6) 0)) rfl dX11_look_4 ?_
  refine x_iload_n C hl dX11_look_7 rfl ?_
  have t3 := h.1
  replace h := h.2
  refine y_r (x_run (As := [.int l1]) C hW hS (T_X6_kindAt l (mR σ (mR σ l0 6) 0) l1 σ _ h) t3 kl_6 (CW.of yv_X6_kindAt ml_X11_117) ⟨rfl, rfl, ⟨by decide, by decide⟩, by decide, by decide⟩ rfl hl.1 rfl (by decide) dX11_look_8) hS (fun w5 s4 H locs h hW hS => ?_)
  refine x_astore_n C hl dX11_look_11 (by decide) rfl (fun ls hl => ?_)
  refine x_aload_n C hl dX11_look_12 rfl ?_
  refine x_ifnonnull C dX11_look_13 (tgt := 18) rfl (fun hc => ?_) (fun hc => ?_)
  · replace h := h.2 hc
    refine x_iload_n C hl dX11_look_18 rfl ?_
    by_cases hc0 : l2 = 0
    · replace h := h.1 hc0
      rw [hc0]
      refine lv_tableIn hx hb dX11_look_19 (by decide) (by decide) (off := 29) rfl (tgt := 48) rfl ?_
      refine x_aload_n C hl dX11_look_48 rfl ?_
      have t6 := h.1
      replace h := h.2
      refine x_get C hW (t := 1) (k := 1) t6 kl_1 (by decide) fl_X11_121 (v := .int (mI s4 w5 1)) rfl dX11_look_49 ?_
      exact r_i C hr hW hS h dX11_look_52
    replace h := h.2
    by_cases hc1 : l2 = 1
    · replace h := h.1 hc1
      rw [hc1]
      refine lv_tableIn hx hb dX11_look_19 (by decide) (by decide) (off := 34) rfl (tgt := 53) rfl ?_
      refine x_aload_n C hl dX11_look_53 rfl ?_
      have t7 := h.1
      replace h := h.2
      refine x_get C hW (t := 1) (k := 2) t7 kl_1 (by decide) fl_X11_126 (v := .int (mI s4 w5 2)) rfl dX11_look_54 ?_
      exact r_i C hr hW hS h dX11_look_57
    replace h := h.2
    by_cases hc2 : l2 = 2
    · replace h := h.1 hc2
      rw [hc2]
      refine lv_tableIn hx hb dX11_look_19 (by decide) (by decide) (off := 39) rfl (tgt := 58) rfl ?_
      refine x_aload_n C hl dX11_look_58 rfl ?_
      have t8 := h.1
      replace h := h.2
      refine x_get C hW (t := 1) (k := 3) t8 kl_1 (by decide) fl_X11_129 (v := .int (mI s4 w5 3)) rfl dX11_look_59 ?_
      exact r_i C hr hW hS h dX11_look_62
    replace h := h.2
    by_cases hc3 : l2 = 3
    · replace h := h.1 hc3
      rw [hc3]
      refine lv_tableIn hx hb dX11_look_19 (by decide) (by decide) (off := 44) rfl (tgt := 63) rfl ?_
      refine x_aload_n C hl dX11_look_63 rfl ?_
      have t9 := h.1
      replace h := h.2
      refine x_get C hW (t := 1) (k := 4) t9 kl_1 (by decide) fl_X11_132 (v := .int (mI s4 w5 4)) rfl dX11_look_64 ?_
      exact r_i C hr hW hS h dX11_look_67
    replace h := h.2
    replace h := h ⟨hc0, hc1, hc2, hc3⟩
    refine lv_tableOut hx hb dX11_look_19 (tb_out4 hc0 hc1 hc2 hc3) (tgt := 68) rfl ?_
    refine lv_iconst (v := (-1 : Int32)) hx hb dX11_look_68 (by decide) ?_
    exact r_i C hr hW hS h dX11_look_69
  · replace h := h.1 hc
    refine lv_iconst (v := (-1 : Int32)) hx hb dX11_look_16 (by decide) ?_
    exact r_i C hr hW hS h dX11_look_17
theorem T_X11_look (l : Launch) {G : Lay} {D : va_G} {tc : Nat → ClassId} {b0 : Nat} (l0 : Nat) (l1 : Int32) (l2 : Int32) (σ : Mem) (Qx : Int32 → Mem → Prop) (h : X_X11_look G Qx l0 l1 l2 σ) : MI l yX11_look cX11_look 4 ((some FieldType.int)) rm_X11_look G D tc b0 [rv b0 l0, .int l1, .int l2] σ Qx :=
  x_entry (y := yX11_look) [.inr (.inr l0), .inl l1, .inl l2] 1 (by decide) (Nat.le_of_ble_eq_true rfl) (fun p e s m args below meth c ls C hr hW hl => t_X11_look_0 C hr va_S.rf hW (hl.keep [true, true, true, false] rfl) h)
/-! X11_member -/
set_option maxRecDepth 20000 in
set_option maxHeartbeats 4000000 in
theorem t_X11_member_79 {p : Program} {l : Launch} {e : Env} {s : State} {m : MethodId} {args : Array Value} {below : List Frame} {meth : Method} {c : Code} {H : Heap} {locs : List Loc} {D : va_G} {tc : Nat → ClassId} {b0 : Nat} {ls : Array Slot} {G : Lay} {Qx : Int32 → Mem → Prop}  {k0 : Int32} {σ : Mem} (C : Cx p s m args meth c cX11_member RX11 5 D tc b0) (hr : meth.sig.returnType = (some FieldType.int)) (hS : va_S (AA b0) s.heap H locs) (hW : Wd G D tc b0 σ H) (hl : hL b0 ls 5 [none, none, none, none, none]) (h : X_X11_member_79 G Qx  k0 σ) : W p l e rm_X11_member s m args below meth c H locs 0 0 (MQ below (va_Qi Qx (fun u t => Pw G D tc b0 u t) (AA b0)) args s 0 0 (AA b0)) (F0 m 79 ls [.int k0]) := by
  have hx := C.1
  have hb := C.2.1
  unfold X_X11_member_79 at h
  exact r_i C hr hW hS h dX11_member_79
set_option maxRecDepth 20000 in
set_option maxHeartbeats 4000000 in
theorem t_X11_member_104 {p : Program} {l : Launch} {e : Env} {s : State} {m : MethodId} {args : Array Value} {below : List Frame} {meth : Method} {c : Code} {H : Heap} {locs : List Loc} {D : va_G} {tc : Nat → ClassId} {b0 : Nat} {ls : Array Slot} {G : Lay} {Qx : Int32 → Mem → Prop}  {k0 : Int32} {σ : Mem} (C : Cx p s m args meth c cX11_member RX11 5 D tc b0) (hr : meth.sig.returnType = (some FieldType.int)) (hS : va_S (AA b0) s.heap H locs) (hW : Wd G D tc b0 σ H) (hl : hL b0 ls 5 [none, none, none, none, none]) (h : X_X11_member_104 G Qx  k0 σ) : W p l e rm_X11_member s m args below meth c H locs 0 0 (MQ below (va_Qi Qx (fun u t => Pw G D tc b0 u t) (AA b0)) args s 0 0 (AA b0)) (F0 m 104 ls [.int k0]) := by
  have hx := C.1
  have hb := C.2.1
  unfold X_X11_member_104 at h
  exact r_i C hr hW hS h dX11_member_104
set_option maxRecDepth 20000 in
set_option maxHeartbeats 4000000 in
theorem t_X11_member_0 {p : Program} {l : Launch} {e : Env} {s : State} {m : MethodId} {args : Array Value} {below : List Frame} {meth : Method} {c : Code} {H : Heap} {locs : List Loc} {D : va_G} {tc : Nat → ClassId} {b0 : Nat} {ls : Array Slot} {G : Lay} {Qx : Int32 → Mem → Prop} {l0 : Nat} {l1 : Int32} {l2 : Int32} {l3 : Int32}  {σ : Mem} (C : Cx p s m args meth c cX11_member RX11 5 D tc b0) (hr : meth.sig.returnType = (some FieldType.int)) (hS : va_S (AA b0) s.heap H locs) (hW : Wd G D tc b0 σ H) (hl : hL b0 ls 5 [some (.inr (.inr l0)), some (.inl l1), some (.inl l2), some (.inl l3), none]) (h : X_X11_member_0 G Qx l0 l1 l2 l3  σ) : W p l e rm_X11_member s m args below meth c H locs 0 0 (MQ below (va_Qi Qx (fun u t => Pw G D tc b0 u t) (AA b0)) args s 0 0 (AA b0)) (F0 m 0 ls []) := by
  have hx := C.1
  have hb := C.2.1
  unfold X_X11_member_0 at h
  refine x_aload_n C hl dX11_member_0 rfl ?_
  have t1 := h.1
  replace h := h.2
  refine x_get C hW (t := 11) (k := 6) t1 kl_11 (by decide) fl_X11_53 (v := rv b0 (mR σ l0 6)) rfl dX11_member_1 ?_
  have t2 := h.1
  replace h := h.2
  refine x_get C hW (t := 5) (k := 0) t2 kl_5 (by decide) fl_X11_102 (v := rv b0 (mR σ (mR σ l0 6) 0)) rfl dX11_member_4 ?_
  refine x_iload_n C hl dX11_member_7 rfl ?_
  refine x_iload_n C hl dX11_member_8 rfl ?_
  have t3 := h.1
  replace h := h.2
  refine y_r (x_run (As := [.int l1, .int l2]) C hW hS (T_X6_memberAt l (mR σ (mR σ l0 6) 0) l1 l2 σ _ h) t3 kl_6 (CW.of yv_X6_memberAt ml_X11_135) ⟨rfl, rfl, ⟨by decide, by decide⟩, by decide, by decide⟩ rfl hl.1 rfl (by decide) dX11_member_9) hS (fun w5 s4 H locs h hW hS => ?_)
  refine x_astore C hl dX11_member_12 (by decide) rfl (fun ls hl => ?_)
  refine x_aload C hl dX11_member_14 rfl ?_
  refine x_ifnonnull C dX11_member_16 (tgt := 21) rfl (fun hc => ?_) (fun hc => ?_)
  · replace h := h.2 hc
    refine x_iload_n C hl dX11_member_21 rfl ?_
    by_cases hc0 : l3 = 0
    · replace h := h.1 hc0
      rw [hc0]
      refine lv_tableIn hx hb dX11_member_22 (by decide) (by decide) (off := 30) rfl (tgt := 52) rfl ?_
      refine x_aload C hl dX11_member_52 rfl ?_
      have t6 := h.1
      replace h := h.2
      refine x_get C hW (t := 2) (k := 2) t6 kl_2 (by decide) fl_X11_139 (v := .int (mI s4 w5 2)) rfl dX11_member_54 ?_
      exact r_i C hr hW hS h dX11_member_57
    replace h := h.2
    by_cases hc1 : l3 = 1
    · replace h := h.1 hc1
      rw [hc1]
      refine lv_tableIn hx hb dX11_member_22 (by decide) (by decide) (off := 36) rfl (tgt := 58) rfl ?_
      refine x_aload C hl dX11_member_58 rfl ?_
      have t7 := h.1
      replace h := h.2
      refine y_i (x_run (As := []) C hW hS (T_X2_isLeading l w5 s4 _ h) t7 kl_2 (CW.of yv_X2_isLeading ml_X11_144) ⟨rfl, rfl, ⟨by decide, by decide⟩, by decide, by decide⟩ rfl hl.1 rfl (by decide) dX11_member_60) hS (fun w9 s8 H locs h hW hS => ?_)
      refine lv_if_eq hx hb dX11_member_63 (tgt := 74) rfl (fun hc => ?_) (fun hc => ?_)
      · replace h := h.1 hc
        refine x_aload C hl dX11_member_74 rfl ?_
        refine x_get C hW (t := 2) (k := 5) t7 kl_2 (by decide) fl_X11_151 (v := .int (mI s8 w5 5)) rfl dX11_member_76 ?_
        exact t_X11_member_79 C hr hS hW (hl.keep [false, false, false, false, false] rfl) h
      · replace h := h.2 hc
        refine x_aload C hl dX11_member_66 rfl ?_
        refine x_get C hW (t := 2) (k := 8) t7 kl_2 (by decide) fl_X11_148 (v := .int (mI s8 w5 8)) rfl dX11_member_68 ?_
        refine lv_goto hx hb dX11_member_71 (tgt := 79) rfl ?_
        exact t_X11_member_79 C hr hS hW (hl.keep [false, false, false, false, false] rfl) h
    replace h := h.2
    by_cases hc2 : l3 = 2
    · replace h := h.1 hc2
      rw [hc2]
      refine lv_tableIn hx hb dX11_member_22 (by decide) (by decide) (off := 58) rfl (tgt := 80) rfl ?_
      refine x_aload C hl dX11_member_80 rfl ?_
      have t10 := h.1
      replace h := h.2
      refine x_get C hW (t := 2) (k := 3) t10 kl_2 (by decide) fl_X11_154 (v := .int (mI s4 w5 3)) rfl dX11_member_82 ?_
      exact r_i C hr hW hS h dX11_member_85
    replace h := h.2
    by_cases hc3 : l3 = 3
    · replace h := h.1 hc3
      rw [hc3]
      refine lv_tableIn hx hb dX11_member_22 (by decide) (by decide) (off := 64) rfl (tgt := 86) rfl ?_
      refine x_aload C hl dX11_member_86 rfl ?_
      have t11 := h.1
      replace h := h.2
      refine x_get C hW (t := 2) (k := 2) t11 kl_2 (by decide) fl_X11_139 (v := .int (mI s4 w5 2)) rfl dX11_member_88 ?_
      refine lv_iconst (v := (5 : Int32)) hx hb dX11_member_91 (by decide) ?_
      refine lv_icmp_ne hx hb dX11_member_92 (tgt := 103) rfl (fun hc => ?_) (fun hc => ?_)
      · replace h := h.2 hc
        refine lv_iconst (v := (-1 : Int32)) hx hb dX11_member_103 (by decide) ?_
        exact t_X11_member_104 C hr hS hW (hl.keep [false, false, false, false, false] rfl) h
      · replace h := h.1 hc
        refine x_aload C hl dX11_member_95 rfl ?_
        refine x_get C hW (t := 2) (k := 11) t11 kl_2 (by decide) fl_X11_157 (v := .int (mI s4 w5 11)) rfl dX11_member_97 ?_
        refine lv_goto hx hb dX11_member_100 (tgt := 104) rfl ?_
        exact t_X11_member_104 C hr hS hW (hl.keep [false, false, false, false, false] rfl) h
    replace h := h.2
    replace h := h ⟨hc0, hc1, hc2, hc3⟩
    refine lv_tableOut hx hb dX11_member_22 (tb_out4 hc0 hc1 hc2 hc3) (tgt := 105) rfl ?_
    refine lv_iconst (v := (-1 : Int32)) hx hb dX11_member_105 (by decide) ?_
    exact r_i C hr hW hS h dX11_member_106
  · replace h := h.1 hc
    refine lv_iconst (v := (-1 : Int32)) hx hb dX11_member_19 (by decide) ?_
    exact r_i C hr hW hS h dX11_member_20
theorem T_X11_member (l : Launch) {G : Lay} {D : va_G} {tc : Nat → ClassId} {b0 : Nat} (l0 : Nat) (l1 : Int32) (l2 : Int32) (l3 : Int32) (σ : Mem) (Qx : Int32 → Mem → Prop) (h : X_X11_member G Qx l0 l1 l2 l3 σ) : MI l yX11_member cX11_member 5 ((some FieldType.int)) rm_X11_member G D tc b0 [rv b0 l0, .int l1, .int l2, .int l3] σ Qx :=
  x_entry (y := yX11_member) [.inr (.inr l0), .inl l1, .inl l2, .inl l3] 1 (by decide) (Nat.le_of_ble_eq_true rfl) (fun p e s m args below meth c ls C hr hW hl => t_X11_member_0 C hr va_S.rf hW (hl.keep [true, true, true, true, false] rfl) h)
/-! X11_unit -/
set_option maxRecDepth 20000 in
set_option maxHeartbeats 4000000 in
theorem t_X11_unit_2_n {p : Program} {l : Launch} {e : Env} {s : State} {m : MethodId} {args : Array Value} {below : List Frame} {meth : Method} {c : Code} {D : va_G} {tc : Nat → ClassId} {b0 : Nat} {G : Lay} {Qx : Int32 → Mem → Prop} {l0 : Nat} (C : Cx p s m args meth c cX11_unit RX11 2 D tc b0) (hr : meth.sig.returnType = (some FieldType.int)) (n : Nat) : ∀ (l1 : Int32) (σ : Mem) (H : Heap) (locs : List Loc) (ls : Array Slot), va_S (AA b0) s.heap H locs → Wd G D tc b0 σ H → hL b0 ls 2 [some (.inr (.inr l0)), some (.inl l1)] → Lp (X_X11_unit_2_s G Qx l0) n (l1, σ) → W p l e rm_X11_unit s m args below meth c H locs 0 0 (MQ below (va_Qi Qx (fun u t => Pw G D tc b0 u t) (AA b0)) args s 0 0 (AA b0)) (F0 m 2 ls []) := by
  have hx := C.1
  have hb := C.2.1
  induction n with
  | zero => intro l1 σ H locs ls hS hW hl h; exact False.elim h
  | succ n hK2 =>
    intro l1 σ H locs ls hS hW hl h
    replace h : X_X11_unit_2_s G Qx l0 (Lp (X_X11_unit_2_s G Qx l0) n) (l1, σ) := h
    unfold X_X11_unit_2_s at h
    refine x_iload_n C hl dX11_unit_2 rfl ?_
    refine lv_iconst (v := (4 : Int32)) hx hb dX11_unit_3 (by decide) ?_
    refine lv_icmp_ge hx hb dX11_unit_4 (tgt := 36) rfl (fun hc => ?_) (fun hc => ?_)
    · replace h := h.1 hc
      refine lv_iconst (v := (-1 : Int32)) hx hb dX11_unit_36 (by decide) ?_
      exact r_i C hr hW hS h dX11_unit_37
    · replace h := h.2 hc
      refine x_aload_n C hl dX11_unit_7 rfl ?_
      have t1 := h.1
      replace h := h.2
      refine x_get C hW (t := 11) (k := 9) t1 kl_11 (by decide) fl_X11_67 (v := rv b0 (mR σ l0 9)) rfl dX11_unit_8 ?_
      refine x_iload_n C hl dX11_unit_11 rfl ?_
      have t2 := h.1
      replace h := h.2
      have v3 := h.1
      replace h := h.2
      refine x_aald C hW (t := 106) (t0 := 7) t2 (by decide) rfl v3 dX11_unit_12 ?_
      have t4 := h.1
      replace h := h.2
      refine x_get C hW (t := 9) (k := 4) t4 kl_9 (by decide) fl_X11_160 (v := .int (mI σ (mR σ (mR σ l0 9) l1.toNatClampNeg) 4)) rfl dX11_unit_13 ?_
      refine lv_if_ne hx hb dX11_unit_16 (tgt := 30) rfl (fun hc => ?_) (fun hc => ?_)
      · replace h := h.2 hc
        refine x_iinc C hl dX11_unit_30 rfl (v := (1 : Int32)) (by decide) (by decide) rfl (fun ls hl => ?_)
        refine lv_goto hx hb dX11_unit_33 (tgt := 2) rfl ?_
        exact hK2 _ _ _ _ _ hS hW (hl.keep [true, true] rfl) h
      · replace h := h.1 hc
        refine x_aload_n C hl dX11_unit_19 rfl ?_
        refine x_get C hW (t := 11) (k := 9) t1 kl_11 (by decide) fl_X11_67 (v := rv b0 (mR σ l0 9)) rfl dX11_unit_20 ?_
        refine x_iload_n C hl dX11_unit_23 rfl ?_
        refine x_aald C hW (t := 106) (t0 := 7) t2 (by decide) rfl v3 dX11_unit_24 ?_
        refine y_v (x_run (As := []) C hW hS (T_X9_begin l (mR σ (mR σ l0 9) l1.toNatClampNeg) σ _ h) t4 kl_9 (CW.of yv_X9_begin ml_X11_164) ⟨rfl, rfl, ⟨by decide, by decide⟩, by decide, by decide⟩ rfl hl.1 rfl (by decide) dX11_unit_25) hS (fun s5 H locs h hW hS => ?_)
        refine x_iload_n C hl dX11_unit_28 rfl ?_
        exact r_i C hr hW hS h dX11_unit_29
set_option maxRecDepth 20000 in
set_option maxHeartbeats 4000000 in
theorem t_X11_unit_2 {p : Program} {l : Launch} {e : Env} {s : State} {m : MethodId} {args : Array Value} {below : List Frame} {meth : Method} {c : Code} {H : Heap} {locs : List Loc} {D : va_G} {tc : Nat → ClassId} {b0 : Nat} {ls : Array Slot} {G : Lay} {Qx : Int32 → Mem → Prop} {l0 : Nat} {l1 : Int32}  {σ : Mem} (C : Cx p s m args meth c cX11_unit RX11 2 D tc b0) (hr : meth.sig.returnType = (some FieldType.int)) (hS : va_S (AA b0) s.heap H locs) (hW : Wd G D tc b0 σ H) (hl : hL b0 ls 2 [some (.inr (.inr l0)), some (.inl l1)]) (h : X_X11_unit_2 G Qx l0 l1 σ) : W p l e rm_X11_unit s m args below meth c H locs 0 0 (MQ below (va_Qi Qx (fun u t => Pw G D tc b0 u t) (AA b0)) args s 0 0 (AA b0)) (F0 m 2 ls []) := by
  obtain ⟨n, h⟩ := h
  exact t_X11_unit_2_n C hr n l1 σ H locs ls hS hW hl h
set_option maxRecDepth 20000 in
set_option maxHeartbeats 4000000 in
theorem t_X11_unit_0 {p : Program} {l : Launch} {e : Env} {s : State} {m : MethodId} {args : Array Value} {below : List Frame} {meth : Method} {c : Code} {H : Heap} {locs : List Loc} {D : va_G} {tc : Nat → ClassId} {b0 : Nat} {ls : Array Slot} {G : Lay} {Qx : Int32 → Mem → Prop} {l0 : Nat}  {σ : Mem} (C : Cx p s m args meth c cX11_unit RX11 2 D tc b0) (hr : meth.sig.returnType = (some FieldType.int)) (hS : va_S (AA b0) s.heap H locs) (hW : Wd G D tc b0 σ H) (hl : hL b0 ls 2 [some (.inr (.inr l0)), none]) (h : X_X11_unit_0 G Qx l0  σ) : W p l e rm_X11_unit s m args below meth c H locs 0 0 (MQ below (va_Qi Qx (fun u t => Pw G D tc b0 u t) (AA b0)) args s 0 0 (AA b0)) (F0 m 0 ls []) := by
  have hx := C.1
  have hb := C.2.1
  unfold X_X11_unit_0 at h
  refine lv_iconst (v := (0 : Int32)) hx hb dX11_unit_0 (by decide) ?_
  refine x_istore_n C hl dX11_unit_1 (by decide) rfl (fun ls hl => ?_)
  exact t_X11_unit_2 C hr hS hW (hl.keep [true, true] rfl) h
theorem T_X11_unit (l : Launch) {G : Lay} {D : va_G} {tc : Nat → ClassId} {b0 : Nat} (l0 : Nat) (σ : Mem) (Qx : Int32 → Mem → Prop) (h : X_X11_unit G Qx l0 σ) : MI l yX11_unit cX11_unit 2 ((some FieldType.int)) rm_X11_unit G D tc b0 [rv b0 l0] σ Qx :=
  x_entry (y := yX11_unit) [.inr (.inr l0)] 1 (by decide) (Nat.le_of_ble_eq_true rfl) (fun p e s m args below meth c ls C hr hW hl => t_X11_unit_0 C hr va_S.rf hW (hl.keep [true, false] rfl) h)
/-! X11_openUnit -/
set_option maxRecDepth 20000 in
set_option maxHeartbeats 4000000 in
theorem t_X11_openUnit_31 {p : Program} {l : Launch} {e : Env} {s : State} {m : MethodId} {args : Array Value} {below : List Frame} {meth : Method} {c : Code} {H : Heap} {locs : List Loc} {D : va_G} {tc : Nat → ClassId} {b0 : Nat} {ls : Array Slot} {G : Lay} {Qx : Nat → Mem → Prop}  {k0 : Nat} {σ : Mem} (C : Cx p s m args meth c cX11_openUnit RX11 2 D tc b0) (hr : meth.sig.returnType = (some (FieldType.object "BeeRegister$Unit"))) (hS : va_S (AA b0) s.heap H locs) (hW : Wd G D tc b0 σ H) (hl : hL b0 ls 2 [none, none]) (h : X_X11_openUnit_31 G Qx  k0 σ) : W p l e rm_X11_openUnit s m args below meth c H locs 0 0 (MQ below (va_Qq (fun o u => ∃ r, o = ro b0 r ∧ Qx r u) (fun u t => Pw G D tc b0 u t) (AA b0)) args s 0 0 (AA b0)) (F0 m 31 ls [rv b0 k0]) := by
  have hx := C.1
  have hb := C.2.1
  unfold X_X11_openUnit_31 at h
  exact r_r C hr hW hS h dX11_openUnit_31
set_option maxRecDepth 20000 in
set_option maxHeartbeats 4000000 in
theorem t_X11_openUnit_21 {p : Program} {l : Launch} {e : Env} {s : State} {m : MethodId} {args : Array Value} {below : List Frame} {meth : Method} {c : Code} {H : Heap} {locs : List Loc} {D : va_G} {tc : Nat → ClassId} {b0 : Nat} {ls : Array Slot} {G : Lay} {Qx : Nat → Mem → Prop}   {σ : Mem} (C : Cx p s m args meth c cX11_openUnit RX11 2 D tc b0) (hr : meth.sig.returnType = (some (FieldType.object "BeeRegister$Unit"))) (hS : va_S (AA b0) s.heap H locs) (hW : Wd G D tc b0 σ H) (hl : hL b0 ls 2 [none, none]) (h : X_X11_openUnit_21 G Qx   σ) : W p l e rm_X11_openUnit s m args below meth c H locs 0 0 (MQ below (va_Qq (fun o u => ∃ r, o = ro b0 r ∧ Qx r u) (fun u t => Pw G D tc b0 u t) (AA b0)) args s 0 0 (AA b0)) (F0 m 21 ls []) := by
  have hx := C.1
  have hb := C.2.1
  unfold X_X11_openUnit_21 at h
  refine x_null C dX11_openUnit_21 ?_
  refine lv_goto hx hb dX11_openUnit_22 (tgt := 31) rfl ?_
  exact t_X11_openUnit_31 C hr hS hW (hl.keep [false, false] rfl) h
set_option maxRecDepth 20000 in
set_option maxHeartbeats 4000000 in
theorem t_X11_openUnit_0 {p : Program} {l : Launch} {e : Env} {s : State} {m : MethodId} {args : Array Value} {below : List Frame} {meth : Method} {c : Code} {H : Heap} {locs : List Loc} {D : va_G} {tc : Nat → ClassId} {b0 : Nat} {ls : Array Slot} {G : Lay} {Qx : Nat → Mem → Prop} {l0 : Nat} {l1 : Int32}  {σ : Mem} (C : Cx p s m args meth c cX11_openUnit RX11 2 D tc b0) (hr : meth.sig.returnType = (some (FieldType.object "BeeRegister$Unit"))) (hS : va_S (AA b0) s.heap H locs) (hW : Wd G D tc b0 σ H) (hl : hL b0 ls 2 [some (.inr (.inr l0)), some (.inl l1)]) (h : X_X11_openUnit_0 G Qx l0 l1  σ) : W p l e rm_X11_openUnit s m args below meth c H locs 0 0 (MQ below (va_Qq (fun o u => ∃ r, o = ro b0 r ∧ Qx r u) (fun u t => Pw G D tc b0 u t) (AA b0)) args s 0 0 (AA b0)) (F0 m 0 ls []) := by
  have hx := C.1
  have hb := C.2.1
  unfold X_X11_openUnit_0 at h
  refine x_iload_n C hl dX11_openUnit_0 rfl ?_
  refine lv_if_lt hx hb dX11_openUnit_1 (tgt := 21) rfl (fun hc => ?_) (fun hc => ?_)
  · replace h := h.1 hc
    exact t_X11_openUnit_21 C hr hS hW (hl.keep [false, false] rfl) h
  · replace h := h.2 hc
    refine x_iload_n C hl dX11_openUnit_4 rfl ?_
    refine lv_iconst (v := (4 : Int32)) hx hb dX11_openUnit_5 (by decide) ?_
    refine lv_icmp_ge hx hb dX11_openUnit_6 (tgt := 21) rfl (fun hc => ?_) (fun hc => ?_)
    · replace h := h.1 hc
      exact t_X11_openUnit_21 C hr hS hW (hl.keep [false, false] rfl) h
    · replace h := h.2 hc
      refine x_aload_n C hl dX11_openUnit_9 rfl ?_
      have t1 := h.1
      replace h := h.2
      refine x_get C hW (t := 11) (k := 9) t1 kl_11 (by decide) fl_X11_67 (v := rv b0 (mR σ l0 9)) rfl dX11_openUnit_10 ?_
      refine x_iload_n C hl dX11_openUnit_13 rfl ?_
      have t2 := h.1
      replace h := h.2
      have v3 := h.1
      replace h := h.2
      refine x_aald C hW (t := 106) (t0 := 7) t2 (by decide) rfl v3 dX11_openUnit_14 ?_
      have t4 := h.1
      replace h := h.2
      refine x_get C hW (t := 9) (k := 4) t4 kl_9 (by decide) fl_X11_160 (v := .int (mI σ (mR σ (mR σ l0 9) l1.toNatClampNeg) 4)) rfl dX11_openUnit_15 ?_
      refine lv_if_ne hx hb dX11_openUnit_18 (tgt := 25) rfl (fun hc => ?_) (fun hc => ?_)
      · replace h := h.2 hc
        refine x_aload_n C hl dX11_openUnit_25 rfl ?_
        refine x_get C hW (t := 11) (k := 9) t1 kl_11 (by decide) fl_X11_67 (v := rv b0 (mR σ l0 9)) rfl dX11_openUnit_26 ?_
        refine x_iload_n C hl dX11_openUnit_29 rfl ?_
        refine x_aald C hW (t := 106) (t0 := 7) t2 (by decide) rfl v3 dX11_openUnit_30 ?_
        exact t_X11_openUnit_31 C hr hS hW (hl.keep [false, false] rfl) h
      · replace h := h.1 hc
        exact t_X11_openUnit_21 C hr hS hW (hl.keep [false, false] rfl) h
theorem T_X11_openUnit (l : Launch) {G : Lay} {D : va_G} {tc : Nat → ClassId} {b0 : Nat} (l0 : Nat) (l1 : Int32) (σ : Mem) (Qx : Nat → Mem → Prop) (h : X_X11_openUnit G Qx l0 l1 σ) : MR l yX11_openUnit cX11_openUnit 2 ((some (FieldType.object "BeeRegister$Unit"))) rm_X11_openUnit G D tc b0 [rv b0 l0, .int l1] σ Qx :=
  x_entry (y := yX11_openUnit) [.inr (.inr l0), .inl l1] 0 (by decide) (Nat.le_of_ble_eq_true rfl) (fun p e s m args below meth c ls C hr hW hl => t_X11_openUnit_0 C hr va_S.rf hW (hl.keep [true, true] rfl) h)
/-! X11_outcome -/
set_option maxRecDepth 20000 in
set_option maxHeartbeats 4000000 in
theorem t_X11_outcome_0 {p : Program} {l : Launch} {e : Env} {s : State} {m : MethodId} {args : Array Value} {below : List Frame} {meth : Method} {c : Code} {H : Heap} {locs : List Loc} {D : va_G} {tc : Nat → ClassId} {b0 : Nat} {ls : Array Slot} {G : Lay} {Qx : Int32 → Mem → Prop} {l0 : Nat} {l1 : Int32}  {σ : Mem} (C : Cx p s m args meth c cX11_outcome RX11 2 D tc b0) (hr : meth.sig.returnType = (some FieldType.int)) (hS : va_S (AA b0) s.heap H locs) (hW : Wd G D tc b0 σ H) (hl : hL b0 ls 2 [some (.inr (.inr l0)), some (.inl l1)]) (h : X_X11_outcome_0 G Qx l0 l1  σ) : W p l e rm_X11_outcome s m args below meth c H locs 0 0 (MQ below (va_Qi Qx (fun u t => Pw G D tc b0 u t) (AA b0)) args s 0 0 (AA b0)) (F0 m 0 ls []) := by
  have hx := C.1
  have hb := C.2.1
  unfold X_X11_outcome_0 at h
  refine x_iload_n C hl dX11_outcome_0 rfl ?_
  by_cases hc0 : l1 = 0
  · replace h := h.1 hc0
    rw [hc0]
    refine lv_tableIn hx hb dX11_outcome_1 (by decide) (by decide) (off := 35) rfl (tgt := 36) rfl ?_
    refine x_aload_n C hl dX11_outcome_36 rfl ?_
    have t1 := h.1
    replace h := h.2
    refine x_get C hW (t := 11) (k := 10) t1 kl_11 (by decide) fl_X11_79 (v := rv b0 (mR σ l0 10)) rfl dX11_outcome_37 ?_
    have t2 := h.1
    replace h := h.2
    refine x_get C hW (t := 10) (k := 4) t2 kl_10 (by decide) fl_X11_175 (v := .int (mI σ (mR σ l0 10) 4)) rfl dX11_outcome_40 ?_
    exact r_i C hr hW hS h dX11_outcome_43
  replace h := h.2
  by_cases hc1 : l1 = 1
  · replace h := h.1 hc1
    rw [hc1]
    refine lv_tableIn hx hb dX11_outcome_1 (by decide) (by decide) (off := 43) rfl (tgt := 44) rfl ?_
    refine x_aload_n C hl dX11_outcome_44 rfl ?_
    have t3 := h.1
    replace h := h.2
    refine x_get C hW (t := 11) (k := 10) t3 kl_11 (by decide) fl_X11_79 (v := rv b0 (mR σ l0 10)) rfl dX11_outcome_45 ?_
    have t4 := h.1
    replace h := h.2
    refine x_get C hW (t := 10) (k := 5) t4 kl_10 (by decide) fl_X11_178 (v := .int (mI σ (mR σ l0 10) 5)) rfl dX11_outcome_48 ?_
    exact r_i C hr hW hS h dX11_outcome_51
  replace h := h.2
  by_cases hc2 : l1 = 2
  · replace h := h.1 hc2
    rw [hc2]
    refine lv_tableIn hx hb dX11_outcome_1 (by decide) (by decide) (off := 51) rfl (tgt := 52) rfl ?_
    refine x_aload_n C hl dX11_outcome_52 rfl ?_
    have t5 := h.1
    replace h := h.2
    refine x_get C hW (t := 11) (k := 10) t5 kl_11 (by decide) fl_X11_79 (v := rv b0 (mR σ l0 10)) rfl dX11_outcome_53 ?_
    have t6 := h.1
    replace h := h.2
    refine x_get C hW (t := 10) (k := 6) t6 kl_10 (by decide) fl_X11_181 (v := .int (mI σ (mR σ l0 10) 6)) rfl dX11_outcome_56 ?_
    exact r_i C hr hW hS h dX11_outcome_59
  replace h := h.2
  by_cases hc3 : l1 = 3
  · replace h := h.1 hc3
    rw [hc3]
    refine lv_tableIn hx hb dX11_outcome_1 (by decide) (by decide) (off := 59) rfl (tgt := 60) rfl ?_
    refine x_aload_n C hl dX11_outcome_60 rfl ?_
    have t7 := h.1
    replace h := h.2
    refine x_get C hW (t := 11) (k := 10) t7 kl_11 (by decide) fl_X11_79 (v := rv b0 (mR σ l0 10)) rfl dX11_outcome_61 ?_
    have t8 := h.1
    replace h := h.2
    refine x_get C hW (t := 10) (k := 7) t8 kl_10 (by decide) fl_X11_184 (v := .int (mI σ (mR σ l0 10) 7)) rfl dX11_outcome_64 ?_
    exact r_i C hr hW hS h dX11_outcome_67
  replace h := h.2
  by_cases hc4 : l1 = 4
  · replace h := h.1 hc4
    rw [hc4]
    refine lv_tableIn hx hb dX11_outcome_1 (by decide) (by decide) (off := 67) rfl (tgt := 68) rfl ?_
    refine x_aload_n C hl dX11_outcome_68 rfl ?_
    have t9 := h.1
    replace h := h.2
    refine x_get C hW (t := 11) (k := 10) t9 kl_11 (by decide) fl_X11_79 (v := rv b0 (mR σ l0 10)) rfl dX11_outcome_69 ?_
    have t10 := h.1
    replace h := h.2
    refine x_get C hW (t := 10) (k := 8) t10 kl_10 (by decide) fl_X11_187 (v := .int (mI σ (mR σ l0 10) 8)) rfl dX11_outcome_72 ?_
    exact r_i C hr hW hS h dX11_outcome_75
  replace h := h.2
  replace h := h ⟨hc0, hc1, hc2, hc3, hc4⟩
  refine lv_tableOut hx hb dX11_outcome_1 (tb_out5 hc0 hc1 hc2 hc3 hc4) (tgt := 76) rfl ?_
  refine lv_iconst (v := (-1 : Int32)) hx hb dX11_outcome_76 (by decide) ?_
  exact r_i C hr hW hS h dX11_outcome_77
theorem T_X11_outcome (l : Launch) {G : Lay} {D : va_G} {tc : Nat → ClassId} {b0 : Nat} (l0 : Nat) (l1 : Int32) (σ : Mem) (Qx : Int32 → Mem → Prop) (h : X_X11_outcome G Qx l0 l1 σ) : MI l yX11_outcome cX11_outcome 2 ((some FieldType.int)) rm_X11_outcome G D tc b0 [rv b0 l0, .int l1] σ Qx :=
  x_entry (y := yX11_outcome) [.inr (.inr l0), .inl l1] 0 (by decide) (Nat.le_of_ble_eq_true rfl) (fun p e s m args below meth c ls C hr hW hl => t_X11_outcome_0 C hr va_S.rf hW (hl.keep [true, true] rfl) h)
/-! X11_write -/
set_option maxRecDepth 20000 in
set_option maxHeartbeats 4000000 in
theorem t_X11_write_0 {p : Program} {l : Launch} {e : Env} {s : State} {m : MethodId} {args : Array Value} {below : List Frame} {meth : Method} {c : Code} {H : Heap} {locs : List Loc} {D : va_G} {tc : Nat → ClassId} {b0 : Nat} {ls : Array Slot} {G : Lay} {Qx : Int32 → Mem → Prop} {l0 : Nat} {l1 : Int32} {l2 : Int32}  {σ : Mem} (C : Cx p s m args meth c cX11_write RX11 3 D tc b0) (hr : meth.sig.returnType = (some FieldType.int)) (hS : va_S (AA b0) s.heap H locs) (hW : Wd G D tc b0 σ H) (hl : hL b0 ls 3 [some (.inr (.inr l0)), some (.inl l1), some (.inl l2)]) (h : X_X11_write_0 G Qx l0 l1 l2  σ) : W p l e rm_X11_write s m args below meth c H locs 0 0 (MQ below (va_Qi Qx (fun u t => Pw G D tc b0 u t) (AA b0)) args s 0 0 (AA b0)) (F0 m 0 ls []) := by
  have hx := C.1
  have hb := C.2.1
  unfold X_X11_write_0 at h
  refine x_aload_n C hl dX11_write_0 rfl ?_
  have t1 := h.1
  replace h := h.2
  refine x_get C hW (t := 11) (k := 10) t1 kl_11 (by decide) fl_X11_79 (v := rv b0 (mR σ l0 10)) rfl dX11_write_1 ?_
  refine x_iload_n C hl dX11_write_4 rfl ?_
  refine x_iload_n C hl dX11_write_5 rfl ?_
  have t2 := h.1
  replace h := h.2
  refine y_i (x_run (As := [.int l1, .int l2]) C hW hS (T_X10_logged l (mR σ l0 10) l1 l2 σ _ h) t2 kl_10 (CW.of yv_X10_logged ml_X11_190) ⟨rfl, rfl, ⟨by decide, by decide⟩, by decide, by decide⟩ rfl hl.1 rfl (by decide) dX11_write_6) hS (fun w4 s3 H locs h hW hS => ?_)
  exact r_i C hr hW hS h dX11_write_9
theorem T_X11_write (l : Launch) {G : Lay} {D : va_G} {tc : Nat → ClassId} {b0 : Nat} (l0 : Nat) (l1 : Int32) (l2 : Int32) (σ : Mem) (Qx : Int32 → Mem → Prop) (h : X_X11_write G Qx l0 l1 l2 σ) : MI l yX11_write cX11_write 3 ((some FieldType.int)) rm_X11_write G D tc b0 [rv b0 l0, .int l1, .int l2] σ Qx :=
  x_entry (y := yX11_write) [.inr (.inr l0), .inl l1, .inl l2] 0 (by decide) (Nat.le_of_ble_eq_true rfl) (fun p e s m args below meth c ls C hr hW hl => t_X11_write_0 C hr va_S.rf hW (hl.keep [true, true, true] rfl) h)
/-! X11_make -/
set_option maxRecDepth 20000 in
set_option maxHeartbeats 4000000 in
theorem t_X11_make_28 {p : Program} {l : Launch} {e : Env} {s : State} {m : MethodId} {args : Array Value} {below : List Frame} {meth : Method} {c : Code} {H : Heap} {locs : List Loc} {D : va_G} {tc : Nat → ClassId} {b0 : Nat} {ls : Array Slot} {G : Lay} {Qx : Int32 → Mem → Prop}   {σ : Mem} (C : Cx p s m args meth c cX11_make RX11 6 D tc b0) (hr : meth.sig.returnType = (some FieldType.int)) (hS : va_S (AA b0) s.heap H locs) (hW : Wd G D tc b0 σ H) (hl : hL b0 ls 6 [none, none, none, none, none, none]) (h : X_X11_make_28 G Qx   σ) : W p l e rm_X11_make s m args below meth c H locs 0 0 (MQ below (va_Qi Qx (fun u t => Pw G D tc b0 u t) (AA b0)) args s 0 0 (AA b0)) (F0 m 28 ls []) := by
  have hx := C.1
  have hb := C.2.1
  unfold X_X11_make_28 at h
  refine lv_iconst (v := (-1 : Int32)) hx hb dX11_make_28 (by decide) ?_
  exact r_i C hr hW hS h dX11_make_29
set_option maxRecDepth 20000 in
set_option maxHeartbeats 4000000 in
theorem t_X11_make_0 {p : Program} {l : Launch} {e : Env} {s : State} {m : MethodId} {args : Array Value} {below : List Frame} {meth : Method} {c : Code} {H : Heap} {locs : List Loc} {D : va_G} {tc : Nat → ClassId} {b0 : Nat} {ls : Array Slot} {G : Lay} {Qx : Int32 → Mem → Prop} {l0 : Nat} {l1 : Int32} {l2 : Int32}  {σ : Mem} (C : Cx p s m args meth c cX11_make RX11 6 D tc b0) (hr : meth.sig.returnType = (some FieldType.int)) (hS : va_S (AA b0) s.heap H locs) (hW : Wd G D tc b0 σ H) (hl : hL b0 ls 6 [some (.inr (.inr l0)), some (.inl l1), some (.inl l2), none, none, none]) (h : X_X11_make_0 G Qx l0 l1 l2  σ) : W p l e rm_X11_make s m args below meth c H locs 0 0 (MQ below (va_Qi Qx (fun u t => Pw G D tc b0 u t) (AA b0)) args s 0 0 (AA b0)) (F0 m 0 ls []) := by
  have hx := C.1
  have hb := C.2.1
  unfold X_X11_make_0 at h
  refine x_aload_n C hl dX11_make_0 rfl ?_
  refine x_iload_n C hl dX11_make_1 rfl ?_
  have t1 := h.1
  replace h := h.2
  refine y_r (x_run (As := [.int l1]) C hW hS (T_X11_openUnit l l0 l1 σ _ h) t1 kl_11 (CW.of yv_X11_openUnit ml_X11_167) ⟨rfl, rfl, ⟨by decide, by decide⟩, by decide, by decide⟩ rfl hl.1 rfl (by decide) dX11_make_2) hS (fun w3 s2 H locs h hW hS => ?_)
  refine x_astore_n C hl dX11_make_5 (by decide) rfl (fun ls hl => ?_)
  refine x_aload_n C hl dX11_make_6 rfl ?_
  refine x_get C hW (t := 11) (k := 6) t1 kl_11 (by decide) fl_X11_53 (v := rv b0 (mR s2 l0 6)) rfl dX11_make_7 ?_
  have t4 := h.1
  replace h := h.2
  refine x_get C hW (t := 5) (k := 0) t4 kl_5 (by decide) fl_X11_102 (v := rv b0 (mR s2 (mR s2 l0 6) 0)) rfl dX11_make_10 ?_
  refine x_iload_n C hl dX11_make_13 rfl ?_
  have t5 := h.1
  replace h := h.2
  refine y_r (x_run (As := [.int l2]) C hW hS (T_X6_kindAt l (mR s2 (mR s2 l0 6) 0) l2 s2 _ h) t5 kl_6 (CW.of yv_X6_kindAt ml_X11_117) ⟨rfl, rfl, ⟨by decide, by decide⟩, by decide, by decide⟩ rfl hl.1 rfl (by decide) dX11_make_14) hS (fun w7 s6 H locs h hW hS => ?_)
  refine x_astore C hl dX11_make_17 (by decide) rfl (fun ls hl => ?_)
  refine x_aload_n C hl dX11_make_19 rfl ?_
  refine x_ifnull C dX11_make_20 (tgt := 28) rfl (fun hc => ?_) (fun hc => ?_)
  · replace h := h.1 hc
    exact t_X11_make_28 C hr hS hW (hl.keep [false, false, false, false, false, false] rfl) h
  · replace h := h.2 hc
    refine x_aload C hl dX11_make_23 rfl ?_
    refine x_ifnonnull C dX11_make_25 (tgt := 30) rfl (fun hc => ?_) (fun hc => ?_)
    · replace h := h.2 hc
      refine x_aload_n C hl dX11_make_30 rfl ?_
      refine lv_iconst (v := (2 : Int32)) hx hb dX11_make_31 (by decide) ?_
      refine x_aload C hl dX11_make_32 rfl ?_
      have t8 := h.1
      replace h := h.2
      refine x_get C hW (t := 1) (k := 2) t8 kl_1 (by decide) fl_X11_126 (v := .int (mI s6 w7 2)) rfl dX11_make_34 ?_
      refine x_aload_n C hl dX11_make_37 rfl ?_
      refine x_get C hW (t := 11) (k := 8) t1 kl_11 (by decide) fl_X11_61 (v := rv b0 (mR s6 l0 8)) rfl dX11_make_38 ?_
      refine x_aload C hl dX11_make_41 rfl ?_
      refine x_get C hW (t := 1) (k := 2) t8 kl_1 (by decide) fl_X11_126 (v := .int (mI s6 w7 2)) rfl dX11_make_43 ?_
      have t9 := h.1
      replace h := h.2
      have v10 := h.1
      replace h := h.2
      refine x_iald C hW t9 v10 dX11_make_46 ?_
      refine lv_iconst (v := (1 : Int32)) hx hb dX11_make_47 (by decide) ?_
      refine lv_iadd hx hb dX11_make_48 ?_
      have t11 := h.1
      replace h := h.2
      refine y_r (x_run (As := [.int (2 : Int32), .int (mI s6 w7 2), .int ((mI s6 (mR s6 l0 8) (mI s6 w7 2).toNatClampNeg) + (1 : Int32))]) C hW hS (T_X9_comes l w3 (2 : Int32) (mI s6 w7 2) ((mI s6 (mR s6 l0 8) (mI s6 w7 2).toNatClampNeg) + (1 : Int32)) s6 _ h) t11 kl_9 (CW.of yv_X9_comes ml_X11_196) ⟨rfl, rfl, ⟨by decide, by decide⟩, by decide, by decide⟩ rfl hl.1 rfl (by decide) dX11_make_49) hS (fun w13 s12 H locs h hW hS => ?_)
      refine x_astore C hl dX11_make_52 (by decide) rfl (fun ls hl => ?_)
      refine x_aload C hl dX11_make_54 rfl ?_
      refine x_ifnonnull C dX11_make_56 (tgt := 62) rfl (fun hc => ?_) (fun hc => ?_)
      · replace h := h.2 hc
        refine x_aload_n C hl dX11_make_62 rfl ?_
        refine x_get C hW (t := 11) (k := 8) t1 kl_11 (by decide) fl_X11_61 (v := rv b0 (mR s12 l0 8)) rfl dX11_make_63 ?_
        refine x_aload C hl dX11_make_66 rfl ?_
        refine x_get C hW (t := 1) (k := 2) t8 kl_1 (by decide) fl_X11_126 (v := .int (mI s12 w7 2)) rfl dX11_make_68 ?_
        refine lv_dup2_11 hx hb dX11_make_71 rfl (rv_cat _ _) ?_
        have t14 := h.1
        replace h := h.2
        have v15 := h.1
        replace h := h.2
        refine x_iald C hW t14 v15 dX11_make_72 ?_
        refine lv_iconst (v := (1 : Int32)) hx hb dX11_make_73 (by decide) ?_
        refine lv_iadd hx hb dX11_make_74 ?_
        refine x_iast C hW hS t14 v15 dX11_make_75 (fun H locs hW hS => ?_)
        obtain ⟨s16, e_s16⟩ : ∃ z : Mem, z = (sI s12 (mR s12 l0 8) (mI s12 w7 2).toNatClampNeg ((mI s12 (mR s12 l0 8) (mI s12 w7 2).toNatClampNeg) + (1 : Int32))) := ⟨_, rfl⟩
        replace h := h s16 e_s16
        replace hW : Wd G D tc b0 s16 H := by rw [e_s16]; exact hW
        refine x_aload C hl dX11_make_76 rfl ?_
        refine x_iload_n C hl dX11_make_78 rfl ?_
        have t17 := h.1
        replace h := h.2
        refine x_putI C hW hS (t := 7) (k := 4) t17 kl_7 (by decide) fl_X11_200 rfl rfl rfl rfl dX11_make_79 (fun H locs hW hS => ?_)
        obtain ⟨s18, e_s18⟩ : ∃ z : Mem, z = (sI s16 w13 4 l2) := ⟨_, rfl⟩
        replace h := h s18 e_s18
        replace hW : Wd G D tc b0 s18 H := by rw [e_s18]; exact hW
        refine x_aload C hl dX11_make_82 rfl ?_
        refine x_get C hW (t := 7) (k := 0) t17 kl_7 (by decide) fl_X11_203 (v := .int (mI s18 w13 0)) rfl dX11_make_84 ?_
        exact r_i C hr hW hS h dX11_make_87
      · replace h := h.1 hc
        refine lv_bipush (v := (-2 : Int32)) hx hb dX11_make_59 (by decide) ?_
        exact r_i C hr hW hS h dX11_make_61
    · replace h := h.1 hc
      exact t_X11_make_28 C hr hS hW (hl.keep [false, false, false, false, false, false] rfl) h
theorem T_X11_make (l : Launch) {G : Lay} {D : va_G} {tc : Nat → ClassId} {b0 : Nat} (l0 : Nat) (l1 : Int32) (l2 : Int32) (σ : Mem) (Qx : Int32 → Mem → Prop) (h : X_X11_make G Qx l0 l1 l2 σ) : MI l yX11_make cX11_make 6 ((some FieldType.int)) rm_X11_make G D tc b0 [rv b0 l0, .int l1, .int l2] σ Qx :=
  x_entry (y := yX11_make) [.inr (.inr l0), .inl l1, .inl l2] 3 (by decide) (Nat.le_of_ble_eq_true rfl) (fun p e s m args below meth c ls C hr hW hl => t_X11_make_0 C hr va_S.rf hW (hl.keep [true, true, true, false, false, false] rfl) h)
/-! X11_find -/
set_option maxRecDepth 20000 in
set_option maxHeartbeats 4000000 in
theorem t_X11_find_30 {p : Program} {l : Launch} {e : Env} {s : State} {m : MethodId} {args : Array Value} {below : List Frame} {meth : Method} {c : Code} {H : Heap} {locs : List Loc} {D : va_G} {tc : Nat → ClassId} {b0 : Nat} {ls : Array Slot} {G : Lay} {Qx : Int32 → Mem → Prop}   {σ : Mem} (C : Cx p s m args meth c cX11_find RX11 6 D tc b0) (hr : meth.sig.returnType = (some FieldType.int)) (hS : va_S (AA b0) s.heap H locs) (hW : Wd G D tc b0 σ H) (hl : hL b0 ls 6 [none, none, none, none, none, none]) (h : X_X11_find_30 G Qx   σ) : W p l e rm_X11_find s m args below meth c H locs 0 0 (MQ below (va_Qi Qx (fun u t => Pw G D tc b0 u t) (AA b0)) args s 0 0 (AA b0)) (F0 m 30 ls []) := by
  have hx := C.1
  have hb := C.2.1
  unfold X_X11_find_30 at h
  refine lv_iconst (v := (-1 : Int32)) hx hb dX11_find_30 (by decide) ?_
  exact r_i C hr hW hS h dX11_find_31
set_option maxRecDepth 20000 in
set_option maxHeartbeats 4000000 in
theorem t_X11_find_0 {p : Program} {l : Launch} {e : Env} {s : State} {m : MethodId} {args : Array Value} {below : List Frame} {meth : Method} {c : Code} {H : Heap} {locs : List Loc} {D : va_G} {tc : Nat → ClassId} {b0 : Nat} {ls : Array Slot} {G : Lay} {Qx : Int32 → Mem → Prop} {l0 : Nat} {l1 : Int32} {l2 : Int32} {l3 : Int32}  {σ : Mem} (C : Cx p s m args meth c cX11_find RX11 6 D tc b0) (hr : meth.sig.returnType = (some FieldType.int)) (hS : va_S (AA b0) s.heap H locs) (hW : Wd G D tc b0 σ H) (hl : hL b0 ls 6 [some (.inr (.inr l0)), some (.inl l1), some (.inl l2), some (.inl l3), none, none]) (h : X_X11_find_0 G Qx l0 l1 l2 l3  σ) : W p l e rm_X11_find s m args below meth c H locs 0 0 (MQ below (va_Qi Qx (fun u t => Pw G D tc b0 u t) (AA b0)) args s 0 0 (AA b0)) (F0 m 0 ls []) := by
  have hx := C.1
  have hb := C.2.1
  unfold X_X11_find_0 at h
  refine x_aload_n C hl dX11_find_0 rfl ?_
  refine x_iload_n C hl dX11_find_1 rfl ?_
  have t1 := h.1
  replace h := h.2
  refine y_r (x_run (As := [.int l1]) C hW hS (T_X11_openUnit l l0 l1 σ _ h) t1 kl_11 (CW.of yv_X11_openUnit ml_X11_167) ⟨rfl, rfl, ⟨by decide, by decide⟩, by decide, by decide⟩ rfl hl.1 rfl (by decide) dX11_find_2) hS (fun w3 s2 H locs h hW hS => ?_)
  refine x_astore C hl dX11_find_5 (by decide) rfl (fun ls hl => ?_)
  refine x_aload_n C hl dX11_find_7 rfl ?_
  refine x_get C hW (t := 11) (k := 6) t1 kl_11 (by decide) fl_X11_53 (v := rv b0 (mR s2 l0 6)) rfl dX11_find_8 ?_
  have t4 := h.1
  replace h := h.2
  refine x_get C hW (t := 5) (k := 0) t4 kl_5 (by decide) fl_X11_102 (v := rv b0 (mR s2 (mR s2 l0 6) 0)) rfl dX11_find_11 ?_
  refine x_iload_n C hl dX11_find_14 rfl ?_
  have t5 := h.1
  replace h := h.2
  refine y_r (x_run (As := [.int l2]) C hW hS (T_X6_kindAt l (mR s2 (mR s2 l0 6) 0) l2 s2 _ h) t5 kl_6 (CW.of yv_X6_kindAt ml_X11_117) ⟨rfl, rfl, ⟨by decide, by decide⟩, by decide, by decide⟩ rfl hl.1 rfl (by decide) dX11_find_15) hS (fun w7 s6 H locs h hW hS => ?_)
  refine x_astore C hl dX11_find_18 (by decide) rfl (fun ls hl => ?_)
  refine x_aload C hl dX11_find_20 rfl ?_
  refine x_ifnull C dX11_find_22 (tgt := 30) rfl (fun hc => ?_) (fun hc => ?_)
  · replace h := h.1 hc
    exact t_X11_find_30 C hr hS hW (hl.keep [false, false, false, false, false, false] rfl) h
  · replace h := h.2 hc
    refine x_aload C hl dX11_find_25 rfl ?_
    refine x_ifnonnull C dX11_find_27 (tgt := 32) rfl (fun hc => ?_) (fun hc => ?_)
    · replace h := h.2 hc
      refine x_aload C hl dX11_find_32 rfl ?_
      refine x_iload_n C hl dX11_find_34 rfl ?_
      refine x_aload C hl dX11_find_35 rfl ?_
      have t8 := h.1
      replace h := h.2
      refine x_get C hW (t := 1) (k := 2) t8 kl_1 (by decide) fl_X11_126 (v := .int (mI s6 w7 2)) rfl dX11_find_37 ?_
      refine x_iload_n C hl dX11_find_40 rfl ?_
      have t9 := h.1
      replace h := h.2
      refine y_i (x_run (As := [.int l2, .int (mI s6 w7 2), .int l3]) C hW hS (T_X9_fetch l w3 l2 (mI s6 w7 2) l3 s6 _ h) t9 kl_9 (CW.of yv_X9_fetch ml_X11_206) ⟨rfl, rfl, ⟨by decide, by decide⟩, by decide, by decide⟩ rfl hl.1 rfl (by decide) dX11_find_41) hS (fun w11 s10 H locs h hW hS => ?_)
      exact r_i C hr hW hS h dX11_find_44
    · replace h := h.1 hc
      exact t_X11_find_30 C hr hS hW (hl.keep [false, false, false, false, false, false] rfl) h
theorem T_X11_find (l : Launch) {G : Lay} {D : va_G} {tc : Nat → ClassId} {b0 : Nat} (l0 : Nat) (l1 : Int32) (l2 : Int32) (l3 : Int32) (σ : Mem) (Qx : Int32 → Mem → Prop) (h : X_X11_find G Qx l0 l1 l2 l3 σ) : MI l yX11_find cX11_find 6 ((some FieldType.int)) rm_X11_find G D tc b0 [rv b0 l0, .int l1, .int l2, .int l3] σ Qx :=
  x_entry (y := yX11_find) [.inr (.inr l0), .inl l1, .inl l2, .inl l3] 2 (by decide) (Nat.le_of_ble_eq_true rfl) (fun p e s m args below meth c ls C hr hW hl => t_X11_find_0 C hr va_S.rf hW (hl.keep [true, true, true, true, false, false] rfl) h)
/-! X11_thingNumbered -/
set_option maxRecDepth 20000 in
set_option maxHeartbeats 4000000 in
theorem t_X11_thingNumbered_31 {p : Program} {l : Launch} {e : Env} {s : State} {m : MethodId} {args : Array Value} {below : List Frame} {meth : Method} {c : Code} {H : Heap} {locs : List Loc} {D : va_G} {tc : Nat → ClassId} {b0 : Nat} {ls : Array Slot} {G : Lay} {Qx : Nat → Mem → Prop}  {k0 : Nat} {σ : Mem} (C : Cx p s m args meth c cX11_thingNumbered RX11 3 D tc b0) (hr : meth.sig.returnType = (some (FieldType.object "BeeRegister$Thing"))) (hS : va_S (AA b0) s.heap H locs) (hW : Wd G D tc b0 σ H) (hl : hL b0 ls 3 [none, none, none]) (h : X_X11_thingNumbered_31 G Qx  k0 σ) : W p l e rm_X11_thingNumbered s m args below meth c H locs 0 0 (MQ below (va_Qq (fun o u => ∃ r, o = ro b0 r ∧ Qx r u) (fun u t => Pw G D tc b0 u t) (AA b0)) args s 0 0 (AA b0)) (F0 m 31 ls [rv b0 k0]) := by
  have hx := C.1
  have hb := C.2.1
  unfold X_X11_thingNumbered_31 at h
  exact r_r C hr hW hS h dX11_thingNumbered_31
set_option maxRecDepth 20000 in
set_option maxHeartbeats 4000000 in
theorem t_X11_thingNumbered_0 {p : Program} {l : Launch} {e : Env} {s : State} {m : MethodId} {args : Array Value} {below : List Frame} {meth : Method} {c : Code} {H : Heap} {locs : List Loc} {D : va_G} {tc : Nat → ClassId} {b0 : Nat} {ls : Array Slot} {G : Lay} {Qx : Nat → Mem → Prop} {l0 : Nat} {l1 : Int32}  {σ : Mem} (C : Cx p s m args meth c cX11_thingNumbered RX11 3 D tc b0) (hr : meth.sig.returnType = (some (FieldType.object "BeeRegister$Thing"))) (hS : va_S (AA b0) s.heap H locs) (hW : Wd G D tc b0 σ H) (hl : hL b0 ls 3 [some (.inr (.inr l0)), some (.inl l1), none]) (h : X_X11_thingNumbered_0 G Qx l0 l1  σ) : W p l e rm_X11_thingNumbered s m args below meth c H locs 0 0 (MQ below (va_Qq (fun o u => ∃ r, o = ro b0 r ∧ Qx r u) (fun u t => Pw G D tc b0 u t) (AA b0)) args s 0 0 (AA b0)) (F0 m 0 ls []) := by
  have hx := C.1
  have hb := C.2.1
  unfold X_X11_thingNumbered_0 at h
  refine x_iload_n C hl dX11_thingNumbered_0 rfl ?_
  refine lv_if_ge hx hb dX11_thingNumbered_1 (tgt := 6) rfl (fun hc => ?_) (fun hc => ?_)
  · replace h := h.1 hc
    refine x_aload_n C hl dX11_thingNumbered_6 rfl ?_
    refine x_iload_n C hl dX11_thingNumbered_7 rfl ?_
    refine lv_bipush (v := (100 : Int32)) hx hb dX11_thingNumbered_8 (by decide) ?_
    refine lv_idiv hx hb dX11_thingNumbered_10 (by decide) ?_
    have t1 := h.1
    replace h := h.2
    refine y_r (x_run (As := [.int (l1 / (100 : Int32))]) C hW hS (T_X11_openUnit l l0 (l1 / (100 : Int32)) σ _ h) t1 kl_11 (CW.of yv_X11_openUnit ml_X11_167) ⟨rfl, rfl, ⟨by decide, by decide⟩, by decide, by decide⟩ rfl hl.1 rfl (by decide) dX11_thingNumbered_11) hS (fun w3 s2 H locs h hW hS => ?_)
    refine x_astore_n C hl dX11_thingNumbered_14 (by decide) rfl (fun ls hl => ?_)
    refine x_aload_n C hl dX11_thingNumbered_15 rfl ?_
    refine x_ifnonnull C dX11_thingNumbered_16 (tgt := 23) rfl (fun hc => ?_) (fun hc => ?_)
    · replace h := h.2 hc
      refine x_aload_n C hl dX11_thingNumbered_23 rfl ?_
      refine x_iload_n C hl dX11_thingNumbered_24 rfl ?_
      refine lv_bipush (v := (100 : Int32)) hx hb dX11_thingNumbered_25 (by decide) ?_
      refine lv_irem hx hb dX11_thingNumbered_27 (by decide) ?_
      have t4 := h.1
      replace h := h.2
      refine y_r (x_run (As := [.int (l1 - l1 / (100 : Int32) * (100 : Int32))]) C hW hS (T_X9_thingAt l w3 (l1 - l1 / (100 : Int32) * (100 : Int32)) s2 _ h) t4 kl_9 (CW.of yv_X9_thingAt ml_X11_334) ⟨rfl, rfl, ⟨by decide, by decide⟩, by decide, by decide⟩ rfl hl.1 rfl (by decide) dX11_thingNumbered_28) hS (fun w6 s5 H locs h hW hS => ?_)
      exact t_X11_thingNumbered_31 C hr hS hW (hl.keep [false, false, false] rfl) h
    · replace h := h.1 hc
      refine x_null C dX11_thingNumbered_19 ?_
      refine lv_goto hx hb dX11_thingNumbered_20 (tgt := 31) rfl ?_
      exact t_X11_thingNumbered_31 C hr hS hW (hl.keep [false, false, false] rfl) h
  · replace h := h.2 hc
    refine x_null C dX11_thingNumbered_4 ?_
    exact r_r C hr hW hS h dX11_thingNumbered_5
theorem T_X11_thingNumbered (l : Launch) {G : Lay} {D : va_G} {tc : Nat → ClassId} {b0 : Nat} (l0 : Nat) (l1 : Int32) (σ : Mem) (Qx : Nat → Mem → Prop) (h : X_X11_thingNumbered G Qx l0 l1 σ) : MR l yX11_thingNumbered cX11_thingNumbered 3 ((some (FieldType.object "BeeRegister$Thing"))) rm_X11_thingNumbered G D tc b0 [rv b0 l0, .int l1] σ Qx :=
  x_entry (y := yX11_thingNumbered) [.inr (.inr l0), .inl l1] 1 (by decide) (Nat.le_of_ble_eq_true rfl) (fun p e s m args below meth c ls C hr hW hl => t_X11_thingNumbered_0 C hr va_S.rf hW (hl.keep [true, true, false] rfl) h)
/-! X11_object -/
set_option maxRecDepth 20000 in
set_option maxHeartbeats 4000000 in
theorem t_X11_object_19 {p : Program} {l : Launch} {e : Env} {s : State} {m : MethodId} {args : Array Value} {below : List Frame} {meth : Method} {c : Code} {H : Heap} {locs : List Loc} {D : va_G} {tc : Nat → ClassId} {b0 : Nat} {ls : Array Slot} {G : Lay} {Qx : Int32 → Mem → Prop}   {σ : Mem} (C : Cx p s m args meth c cX11_object RX11 4 D tc b0) (hr : meth.sig.returnType = (some FieldType.int)) (hS : va_S (AA b0) s.heap H locs) (hW : Wd G D tc b0 σ H) (hl : hL b0 ls 4 [none, none, none, none]) (h : X_X11_object_19 G Qx   σ) : W p l e rm_X11_object s m args below meth c H locs 0 0 (MQ below (va_Qi Qx (fun u t => Pw G D tc b0 u t) (AA b0)) args s 0 0 (AA b0)) (F0 m 19 ls []) := by
  have hx := C.1
  have hb := C.2.1
  unfold X_X11_object_19 at h
  refine lv_iconst (v := (-1 : Int32)) hx hb dX11_object_19 (by decide) ?_
  exact r_i C hr hW hS h dX11_object_20
set_option maxRecDepth 20000 in
set_option maxHeartbeats 4000000 in
theorem t_X11_object_79 {p : Program} {l : Launch} {e : Env} {s : State} {m : MethodId} {args : Array Value} {below : List Frame} {meth : Method} {c : Code} {H : Heap} {locs : List Loc} {D : va_G} {tc : Nat → ClassId} {b0 : Nat} {ls : Array Slot} {G : Lay} {Qx : Int32 → Mem → Prop}  {k0 : Int32} {σ : Mem} (C : Cx p s m args meth c cX11_object RX11 4 D tc b0) (hr : meth.sig.returnType = (some FieldType.int)) (hS : va_S (AA b0) s.heap H locs) (hW : Wd G D tc b0 σ H) (hl : hL b0 ls 4 [none, none, none, none]) (h : X_X11_object_79 G Qx  k0 σ) : W p l e rm_X11_object s m args below meth c H locs 0 0 (MQ below (va_Qi Qx (fun u t => Pw G D tc b0 u t) (AA b0)) args s 0 0 (AA b0)) (F0 m 79 ls [.int k0]) := by
  have hx := C.1
  have hb := C.2.1
  unfold X_X11_object_79 at h
  exact r_i C hr hW hS h dX11_object_79
set_option maxRecDepth 20000 in
set_option maxHeartbeats 4000000 in
theorem t_X11_object_0 {p : Program} {l : Launch} {e : Env} {s : State} {m : MethodId} {args : Array Value} {below : List Frame} {meth : Method} {c : Code} {H : Heap} {locs : List Loc} {D : va_G} {tc : Nat → ClassId} {b0 : Nat} {ls : Array Slot} {G : Lay} {Qx : Int32 → Mem → Prop} {l0 : Nat} {l1 : Int32} {l2 : Int32}  {σ : Mem} (C : Cx p s m args meth c cX11_object RX11 4 D tc b0) (hr : meth.sig.returnType = (some FieldType.int)) (hS : va_S (AA b0) s.heap H locs) (hW : Wd G D tc b0 σ H) (hl : hL b0 ls 4 [some (.inr (.inr l0)), some (.inl l1), some (.inl l2), none]) (h : X_X11_object_0 G Qx l0 l1 l2  σ) : W p l e rm_X11_object s m args below meth c H locs 0 0 (MQ below (va_Qi Qx (fun u t => Pw G D tc b0 u t) (AA b0)) args s 0 0 (AA b0)) (F0 m 0 ls []) := by
  have hx := C.1
  have hb := C.2.1
  unfold X_X11_object_0 at h
  refine x_aload_n C hl dX11_object_0 rfl ?_
  refine x_iload_n C hl dX11_object_1 rfl ?_
  have t1 := h.1
  replace h := h.2
  refine y_r (x_run (As := [.int l1]) C hW hS (T_X11_thingNumbered l l0 l1 σ _ h) t1 kl_11 (CW.of yv_X11_thingNumbered ml_X11_210) ⟨rfl, rfl, ⟨by decide, by decide⟩, by decide, by decide⟩ rfl hl.1 rfl (by decide) dX11_object_2) hS (fun w3 s2 H locs h hW hS => ?_)
  refine x_astore_n C hl dX11_object_5 (by decide) rfl (fun ls hl => ?_)
  refine x_aload_n C hl dX11_object_6 rfl ?_
  refine x_ifnull C dX11_object_7 (tgt := 19) rfl (fun hc => ?_) (fun hc => ?_)
  · replace h := h.1 hc
    exact t_X11_object_19 C hr hS hW (hl.keep [false, false, false, false] rfl) h
  · replace h := h.2 hc
    refine x_iload_n C hl dX11_object_10 rfl ?_
    refine lv_if_lt hx hb dX11_object_11 (tgt := 19) rfl (fun hc => ?_) (fun hc => ?_)
    · replace h := h.1 hc
      exact t_X11_object_19 C hr hS hW (hl.keep [false, false, false, false] rfl) h
    · replace h := h.2 hc
      refine x_iload_n C hl dX11_object_14 rfl ?_
      refine lv_iconst (v := (3 : Int32)) hx hb dX11_object_15 (by decide) ?_
      refine lv_icmp_le hx hb dX11_object_16 (tgt := 21) rfl (fun hc => ?_) (fun hc => ?_)
      · replace h := h.1 hc
        refine x_iload_n C hl dX11_object_21 rfl ?_
        refine lv_if_ne hx hb dX11_object_22 (tgt := 30) rfl (fun hc => ?_) (fun hc => ?_)
        · replace h := h.2 hc
          refine x_iload_n C hl dX11_object_30 rfl ?_
          refine lv_iconst (v := (1 : Int32)) hx hb dX11_object_31 (by decide) ?_
          refine lv_icmp_ne hx hb dX11_object_32 (tgt := 40) rfl (fun hc => ?_) (fun hc => ?_)
          · replace h := h.2 hc
            refine x_aload_n C hl dX11_object_40 rfl ?_
            refine x_get C hW (t := 11) (k := 9) t1 kl_11 (by decide) fl_X11_67 (v := rv b0 (mR s2 l0 9)) rfl dX11_object_41 ?_
            refine x_iload_n C hl dX11_object_44 rfl ?_
            refine lv_bipush (v := (100 : Int32)) hx hb dX11_object_45 (by decide) ?_
            refine lv_idiv hx hb dX11_object_47 (by decide) ?_
            have t4 := h.1
            replace h := h.2
            have v5 := h.1
            replace h := h.2
            refine x_aald C hW (t := 106) (t0 := 7) t4 (by decide) rfl v5 dX11_object_48 ?_
            refine x_aload_n C hl dX11_object_49 rfl ?_
            have t6 := h.1
            replace h := h.2
            refine y_v (x_run (As := [rv b0 w3]) C hW hS (T_X9_loadStand l (mR s2 (mR s2 l0 9) (l1 / (100 : Int32)).toNatClampNeg) w3 s2 _ h) t6 kl_9 (CW.of yv_X9_loadStand ml_X11_220) ⟨rfl, rfl, ⟨by decide, by decide⟩, by decide, by decide⟩ rfl hl.1 rfl (by decide) dX11_object_50) hS (fun s7 H locs h hW hS => ?_)
            refine x_aload_n C hl dX11_object_53 rfl ?_
            have t8 := h.1
            replace h := h.2
            refine x_get C hW (t := 7) (k := 1) t8 kl_7 (by decide) fl_X11_214 (v := .int (mI s7 w3 1)) rfl dX11_object_54 ?_
            refine lv_iconst (v := (4 : Int32)) hx hb dX11_object_57 (by decide) ?_
            refine lv_icmp_ne hx hb dX11_object_58 (tgt := 63) rfl (fun hc => ?_) (fun hc => ?_)
            · replace h := h.2 hc
              refine x_iload_n C hl dX11_object_63 rfl ?_
              refine lv_iconst (v := (2 : Int32)) hx hb dX11_object_64 (by decide) ?_
              refine lv_icmp_ne hx hb dX11_object_65 (tgt := 75) rfl (fun hc => ?_) (fun hc => ?_)
              · replace h := h.2 hc
                refine x_aload_n C hl dX11_object_75 rfl ?_
                refine x_get C hW (t := 7) (k := 5) t8 kl_7 (by decide) fl_X11_224 (v := .int (mI s7 w3 5)) rfl dX11_object_76 ?_
                exact t_X11_object_79 C hr hS hW (hl.keep [false, false, false, false] rfl) h
              · replace h := h.1 hc
                refine x_aload_n C hl dX11_object_68 rfl ?_
                refine x_get C hW (t := 7) (k := 4) t8 kl_7 (by decide) fl_X11_200 (v := .int (mI s7 w3 4)) rfl dX11_object_69 ?_
                refine lv_goto hx hb dX11_object_72 (tgt := 79) rfl ?_
                exact t_X11_object_79 C hr hS hW (hl.keep [false, false, false, false] rfl) h
            · replace h := h.1 hc
              refine lv_iconst (v := (-1 : Int32)) hx hb dX11_object_61 (by decide) ?_
              exact r_i C hr hW hS h dX11_object_62
          · replace h := h.1 hc
            refine x_aload_n C hl dX11_object_35 rfl ?_
            have t9 := h.1
            replace h := h.2
            refine x_get C hW (t := 7) (k := 3) t9 kl_7 (by decide) fl_X11_217 (v := .int (mI s2 w3 3)) rfl dX11_object_36 ?_
            exact r_i C hr hW hS h dX11_object_39
        · replace h := h.1 hc
          refine x_aload_n C hl dX11_object_25 rfl ?_
          have t10 := h.1
          replace h := h.2
          refine x_get C hW (t := 7) (k := 1) t10 kl_7 (by decide) fl_X11_214 (v := .int (mI s2 w3 1)) rfl dX11_object_26 ?_
          exact r_i C hr hW hS h dX11_object_29
      · replace h := h.2 hc
        exact t_X11_object_19 C hr hS hW (hl.keep [false, false, false, false] rfl) h
theorem T_X11_object (l : Launch) {G : Lay} {D : va_G} {tc : Nat → ClassId} {b0 : Nat} (l0 : Nat) (l1 : Int32) (l2 : Int32) (σ : Mem) (Qx : Int32 → Mem → Prop) (h : X_X11_object G Qx l0 l1 l2 σ) : MI l yX11_object cX11_object 4 ((some FieldType.int)) rm_X11_object G D tc b0 [rv b0 l0, .int l1, .int l2] σ Qx :=
  x_entry (y := yX11_object) [.inr (.inr l0), .inl l1, .inl l2] 1 (by decide) (Nat.le_of_ble_eq_true rfl) (fun p e s m args below meth c ls C hr hW hl => t_X11_object_0 C hr va_S.rf hW (hl.keep [true, true, true, false] rfl) h)
/-! X11_usableThing -/
set_option maxRecDepth 20000 in
set_option maxHeartbeats 4000000 in
theorem t_X11_usableThing_37 {p : Program} {l : Launch} {e : Env} {s : State} {m : MethodId} {args : Array Value} {below : List Frame} {meth : Method} {c : Code} {H : Heap} {locs : List Loc} {D : va_G} {tc : Nat → ClassId} {b0 : Nat} {ls : Array Slot} {G : Lay} {Qx : Nat → Mem → Prop}  {k0 : Nat} {σ : Mem} (C : Cx p s m args meth c cX11_usableThing RX11 3 D tc b0) (hr : meth.sig.returnType = (some (FieldType.object "BeeRegister$Thing"))) (hS : va_S (AA b0) s.heap H locs) (hW : Wd G D tc b0 σ H) (hl : hL b0 ls 3 [none, none, none]) (h : X_X11_usableThing_37 G Qx  k0 σ) : W p l e rm_X11_usableThing s m args below meth c H locs 0 0 (MQ below (va_Qq (fun o u => ∃ r, o = ro b0 r ∧ Qx r u) (fun u t => Pw G D tc b0 u t) (AA b0)) args s 0 0 (AA b0)) (F0 m 37 ls [rv b0 k0]) := by
  have hx := C.1
  have hb := C.2.1
  unfold X_X11_usableThing_37 at h
  exact r_r C hr hW hS h dX11_usableThing_37
set_option maxRecDepth 20000 in
set_option maxHeartbeats 4000000 in
theorem t_X11_usableThing_0 {p : Program} {l : Launch} {e : Env} {s : State} {m : MethodId} {args : Array Value} {below : List Frame} {meth : Method} {c : Code} {H : Heap} {locs : List Loc} {D : va_G} {tc : Nat → ClassId} {b0 : Nat} {ls : Array Slot} {G : Lay} {Qx : Nat → Mem → Prop} {l0 : Nat} {l1 : Int32}  {σ : Mem} (C : Cx p s m args meth c cX11_usableThing RX11 3 D tc b0) (hr : meth.sig.returnType = (some (FieldType.object "BeeRegister$Thing"))) (hS : va_S (AA b0) s.heap H locs) (hW : Wd G D tc b0 σ H) (hl : hL b0 ls 3 [some (.inr (.inr l0)), some (.inl l1), none]) (h : X_X11_usableThing_0 G Qx l0 l1  σ) : W p l e rm_X11_usableThing s m args below meth c H locs 0 0 (MQ below (va_Qq (fun o u => ∃ r, o = ro b0 r ∧ Qx r u) (fun u t => Pw G D tc b0 u t) (AA b0)) args s 0 0 (AA b0)) (F0 m 0 ls []) := by
  have hx := C.1
  have hb := C.2.1
  unfold X_X11_usableThing_0 at h
  refine x_aload_n C hl dX11_usableThing_0 rfl ?_
  refine x_iload_n C hl dX11_usableThing_1 rfl ?_
  have t1 := h.1
  replace h := h.2
  refine y_r (x_run (As := [.int l1]) C hW hS (T_X11_thingNumbered l l0 l1 σ _ h) t1 kl_11 (CW.of yv_X11_thingNumbered ml_X11_210) ⟨rfl, rfl, ⟨by decide, by decide⟩, by decide, by decide⟩ rfl hl.1 rfl (by decide) dX11_usableThing_2) hS (fun w3 s2 H locs h hW hS => ?_)
  refine x_astore_n C hl dX11_usableThing_5 (by decide) rfl (fun ls hl => ?_)
  refine x_aload_n C hl dX11_usableThing_6 rfl ?_
  refine x_ifnonnull C dX11_usableThing_7 (tgt := 12) rfl (fun hc => ?_) (fun hc => ?_)
  · replace h := h.2 hc
    refine x_aload_n C hl dX11_usableThing_12 rfl ?_
    refine x_get C hW (t := 11) (k := 9) t1 kl_11 (by decide) fl_X11_67 (v := rv b0 (mR s2 l0 9)) rfl dX11_usableThing_13 ?_
    refine x_iload_n C hl dX11_usableThing_16 rfl ?_
    refine lv_bipush (v := (100 : Int32)) hx hb dX11_usableThing_17 (by decide) ?_
    refine lv_idiv hx hb dX11_usableThing_19 (by decide) ?_
    have t4 := h.1
    replace h := h.2
    have v5 := h.1
    replace h := h.2
    refine x_aald C hW (t := 106) (t0 := 7) t4 (by decide) rfl v5 dX11_usableThing_20 ?_
    refine x_aload_n C hl dX11_usableThing_21 rfl ?_
    have t6 := h.1
    replace h := h.2
    refine y_v (x_run (As := [rv b0 w3]) C hW hS (T_X9_loadStand l (mR s2 (mR s2 l0 9) (l1 / (100 : Int32)).toNatClampNeg) w3 s2 _ h) t6 kl_9 (CW.of yv_X9_loadStand ml_X11_220) ⟨rfl, rfl, ⟨by decide, by decide⟩, by decide, by decide⟩ rfl hl.1 rfl (by decide) dX11_usableThing_22) hS (fun s7 H locs h hW hS => ?_)
    refine x_aload_n C hl dX11_usableThing_25 rfl ?_
    have t8 := h.1
    replace h := h.2
    refine y_i (x_run (As := []) C hW hS (T_X7_isLive l w3 s7 _ h) t8 kl_7 (CW.of yv_X7_isLive ml_X11_337) ⟨rfl, rfl, ⟨by decide, by decide⟩, by decide, by decide⟩ rfl hl.1 rfl (by decide) dX11_usableThing_26) hS (fun w10 s9 H locs h hW hS => ?_)
    refine lv_if_eq hx hb dX11_usableThing_29 (tgt := 36) rfl (fun hc => ?_) (fun hc => ?_)
    · replace h := h.1 hc
      refine x_null C dX11_usableThing_36 ?_
      exact t_X11_usableThing_37 C hr hS hW (hl.keep [false, false, false] rfl) h
    · replace h := h.2 hc
      refine x_aload_n C hl dX11_usableThing_32 rfl ?_
      refine lv_goto hx hb dX11_usableThing_33 (tgt := 37) rfl ?_
      exact t_X11_usableThing_37 C hr hS hW (hl.keep [false, false, false] rfl) h
  · replace h := h.1 hc
    refine x_null C dX11_usableThing_10 ?_
    exact r_r C hr hW hS h dX11_usableThing_11
theorem T_X11_usableThing (l : Launch) {G : Lay} {D : va_G} {tc : Nat → ClassId} {b0 : Nat} (l0 : Nat) (l1 : Int32) (σ : Mem) (Qx : Nat → Mem → Prop) (h : X_X11_usableThing G Qx l0 l1 σ) : MR l yX11_usableThing cX11_usableThing 3 ((some (FieldType.object "BeeRegister$Thing"))) rm_X11_usableThing G D tc b0 [rv b0 l0, .int l1] σ Qx :=
  x_entry (y := yX11_usableThing) [.inr (.inr l0), .inl l1] 1 (by decide) (Nat.le_of_ble_eq_true rfl) (fun p e s m args below meth c ls C hr hW hl => t_X11_usableThing_0 C hr va_S.rf hW (hl.keep [true, true, false] rfl) h)
/-! X11_memberOf -/
set_option maxRecDepth 20000 in
set_option maxHeartbeats 4000000 in
theorem t_X11_memberOf_23 {p : Program} {l : Launch} {e : Env} {s : State} {m : MethodId} {args : Array Value} {below : List Frame} {meth : Method} {c : Code} {H : Heap} {locs : List Loc} {D : va_G} {tc : Nat → ClassId} {b0 : Nat} {ls : Array Slot} {G : Lay} {Qx : Nat → Mem → Prop}  {k0 : Nat} {σ : Mem} (C : Cx p s m args meth c cX11_memberOf RX11 3 D tc b0) (hr : meth.sig.returnType = (some (FieldType.object "BeeRegister$Member"))) (hS : va_S (AA b0) s.heap H locs) (hW : Wd G D tc b0 σ H) (hl : hL b0 ls 3 [none, none, none]) (h : X_X11_memberOf_23 G Qx  k0 σ) : W p l e rm_X11_memberOf s m args below meth c H locs 0 0 (MQ below (va_Qq (fun o u => ∃ r, o = ro b0 r ∧ Qx r u) (fun u t => Pw G D tc b0 u t) (AA b0)) args s 0 0 (AA b0)) (F0 m 23 ls [rv b0 k0]) := by
  have hx := C.1
  have hb := C.2.1
  unfold X_X11_memberOf_23 at h
  exact r_r C hr hW hS h dX11_memberOf_23
set_option maxRecDepth 20000 in
set_option maxHeartbeats 4000000 in
theorem t_X11_memberOf_0 {p : Program} {l : Launch} {e : Env} {s : State} {m : MethodId} {args : Array Value} {below : List Frame} {meth : Method} {c : Code} {H : Heap} {locs : List Loc} {D : va_G} {tc : Nat → ClassId} {b0 : Nat} {ls : Array Slot} {G : Lay} {Qx : Nat → Mem → Prop} {l0 : Nat} {l1 : Nat} {l2 : Int32}  {σ : Mem} (C : Cx p s m args meth c cX11_memberOf RX11 3 D tc b0) (hr : meth.sig.returnType = (some (FieldType.object "BeeRegister$Member"))) (hS : va_S (AA b0) s.heap H locs) (hW : Wd G D tc b0 σ H) (hl : hL b0 ls 3 [some (.inr (.inr l0)), some (.inr (.inr l1)), some (.inl l2)]) (h : X_X11_memberOf_0 G Qx l0 l1 l2  σ) : W p l e rm_X11_memberOf s m args below meth c H locs 0 0 (MQ below (va_Qq (fun o u => ∃ r, o = ro b0 r ∧ Qx r u) (fun u t => Pw G D tc b0 u t) (AA b0)) args s 0 0 (AA b0)) (F0 m 0 ls []) := by
  have hx := C.1
  have hb := C.2.1
  unfold X_X11_memberOf_0 at h
  refine x_aload_n C hl dX11_memberOf_0 rfl ?_
  refine x_ifnonnull C dX11_memberOf_1 (tgt := 8) rfl (fun hc => ?_) (fun hc => ?_)
  · replace h := h.2 hc
    refine x_aload_n C hl dX11_memberOf_8 rfl ?_
    have t1 := h.1
    replace h := h.2
    refine x_get C hW (t := 11) (k := 6) t1 kl_11 (by decide) fl_X11_53 (v := rv b0 (mR σ l0 6)) rfl dX11_memberOf_9 ?_
    have t2 := h.1
    replace h := h.2
    refine x_get C hW (t := 5) (k := 0) t2 kl_5 (by decide) fl_X11_102 (v := rv b0 (mR σ (mR σ l0 6) 0)) rfl dX11_memberOf_12 ?_
    refine x_aload_n C hl dX11_memberOf_15 rfl ?_
    have t3 := h.1
    replace h := h.2
    refine x_get C hW (t := 7) (k := 4) t3 kl_7 (by decide) fl_X11_200 (v := .int (mI σ l1 4)) rfl dX11_memberOf_16 ?_
    refine x_iload_n C hl dX11_memberOf_19 rfl ?_
    have t4 := h.1
    replace h := h.2
    refine y_r (x_run (As := [.int (mI σ l1 4), .int l2]) C hW hS (T_X6_memberAt l (mR σ (mR σ l0 6) 0) (mI σ l1 4) l2 σ _ h) t4 kl_6 (CW.of yv_X6_memberAt ml_X11_135) ⟨rfl, rfl, ⟨by decide, by decide⟩, by decide, by decide⟩ rfl hl.1 rfl (by decide) dX11_memberOf_20) hS (fun w6 s5 H locs h hW hS => ?_)
    exact t_X11_memberOf_23 C hr hS hW (hl.keep [false, false, false] rfl) h
  · replace h := h.1 hc
    refine x_null C dX11_memberOf_4 ?_
    refine lv_goto hx hb dX11_memberOf_5 (tgt := 23) rfl ?_
    exact t_X11_memberOf_23 C hr hS hW (hl.keep [false, false, false] rfl) h
theorem T_X11_memberOf (l : Launch) {G : Lay} {D : va_G} {tc : Nat → ClassId} {b0 : Nat} (l0 : Nat) (l1 : Nat) (l2 : Int32) (σ : Mem) (Qx : Nat → Mem → Prop) (h : X_X11_memberOf G Qx l0 l1 l2 σ) : MR l yX11_memberOf cX11_memberOf 3 ((some (FieldType.object "BeeRegister$Member"))) rm_X11_memberOf G D tc b0 [rv b0 l0, rv b0 l1, .int l2] σ Qx :=
  x_entry (y := yX11_memberOf) [.inr (.inr l0), .inr (.inr l1), .inl l2] 0 (by decide) (Nat.le_of_ble_eq_true rfl) (fun p e s m args below meth c ls C hr hW hl => t_X11_memberOf_0 C hr va_S.rf hW (hl.keep [true, true, true] rfl) h)
/-! X11_value -/
set_option maxRecDepth 20000 in
set_option maxHeartbeats 4000000 in
theorem t_X11_value_32 {p : Program} {l : Launch} {e : Env} {s : State} {m : MethodId} {args : Array Value} {below : List Frame} {meth : Method} {c : Code} {H : Heap} {locs : List Loc} {D : va_G} {tc : Nat → ClassId} {b0 : Nat} {ls : Array Slot} {G : Lay} {Qx : Int64 → Mem → Prop}   {σ : Mem} (C : Cx p s m args meth c cX11_value RX11 5 D tc b0) (hr : meth.sig.returnType = (some FieldType.long)) (hS : va_S (AA b0) s.heap H locs) (hW : Wd G D tc b0 σ H) (hl : hL b0 ls 5 [none, none, none, none, none]) (h : X_X11_value_32 G Qx   σ) : W p l e rm_X11_value s m args below meth c H locs 0 0 (MQ below (va_Ql Qx (fun u t => Pw G D tc b0 u t) (AA b0)) args s 0 0 (AA b0)) (F0 m 32 ls []) := by
  have hx := C.1
  have hb := C.2.1
  unfold X_X11_value_32 at h
  refine lv_ldc2 (own := RX11) (v := (-9223372036854775808 : Int64)) hx hb C.2.2.2.1 (C.2.2.2.2.1 _ (gc5 210 rfl rfl)) dX11_value_32 ?_
  exact r_l C hr hW hS h dX11_value_35
set_option maxRecDepth 20000 in
set_option maxHeartbeats 4000000 in
theorem t_X11_value_0 {p : Program} {l : Launch} {e : Env} {s : State} {m : MethodId} {args : Array Value} {below : List Frame} {meth : Method} {c : Code} {H : Heap} {locs : List Loc} {D : va_G} {tc : Nat → ClassId} {b0 : Nat} {ls : Array Slot} {G : Lay} {Qx : Int64 → Mem → Prop} {l0 : Nat} {l1 : Int32} {l2 : Int32}  {σ : Mem} (C : Cx p s m args meth c cX11_value RX11 5 D tc b0) (hr : meth.sig.returnType = (some FieldType.long)) (hS : va_S (AA b0) s.heap H locs) (hW : Wd G D tc b0 σ H) (hl : hL b0 ls 5 [some (.inr (.inr l0)), some (.inl l1), some (.inl l2), none, none]) (h : X_X11_value_0 G Qx l0 l1 l2  σ) : W p l e rm_X11_value s m args below meth c H locs 0 0 (MQ below (va_Ql Qx (fun u t => Pw G D tc b0 u t) (AA b0)) args s 0 0 (AA b0)) (F0 m 0 ls []) := by
  have hx := C.1
  have hb := C.2.1
  unfold X_X11_value_0 at h
  refine x_aload_n C hl dX11_value_0 rfl ?_
  refine x_iload_n C hl dX11_value_1 rfl ?_
  have t1 := h.1
  replace h := h.2
  refine y_r (x_run (As := [.int l1]) C hW hS (T_X11_usableThing l l0 l1 σ _ h) t1 kl_11 (CW.of yv_X11_usableThing ml_X11_227) ⟨rfl, rfl, ⟨by decide, by decide⟩, by decide, by decide⟩ rfl hl.1 rfl (by decide) dX11_value_2) hS (fun w3 s2 H locs h hW hS => ?_)
  refine x_astore_n C hl dX11_value_5 (by decide) rfl (fun ls hl => ?_)
  refine x_aload_n C hl dX11_value_6 rfl ?_
  refine x_aload_n C hl dX11_value_7 rfl ?_
  refine x_iload_n C hl dX11_value_8 rfl ?_
  refine y_r (x_run (As := [rv b0 w3, .int l2]) C hW hS (T_X11_memberOf l l0 w3 l2 s2 _ h) t1 kl_11 (CW.of yv_X11_memberOf ml_X11_230) ⟨rfl, rfl, ⟨by decide, by decide⟩, by decide, by decide⟩ rfl hl.1 rfl (by decide) dX11_value_9) hS (fun w5 s4 H locs h hW hS => ?_)
  refine x_astore C hl dX11_value_12 (by decide) rfl (fun ls hl => ?_)
  refine x_aload_n C hl dX11_value_14 rfl ?_
  refine x_ifnull C dX11_value_15 (tgt := 32) rfl (fun hc => ?_) (fun hc => ?_)
  · replace h := h.1 hc
    exact t_X11_value_32 C hr hS hW (hl.keep [false, false, false, false, false] rfl) h
  · replace h := h.2 hc
    refine x_aload C hl dX11_value_18 rfl ?_
    refine x_ifnull C dX11_value_20 (tgt := 32) rfl (fun hc => ?_) (fun hc => ?_)
    · replace h := h.1 hc
      exact t_X11_value_32 C hr hS hW (hl.keep [false, false, false, false, false] rfl) h
    · replace h := h.2 hc
      refine x_aload C hl dX11_value_23 rfl ?_
      have t6 := h.1
      replace h := h.2
      refine x_get C hW (t := 2) (k := 2) t6 kl_2 (by decide) fl_X11_139 (v := .int (mI s4 w5 2)) rfl dX11_value_25 ?_
      refine lv_iconst (v := (5 : Int32)) hx hb dX11_value_28 (by decide) ?_
      refine lv_icmp_ne hx hb dX11_value_29 (tgt := 36) rfl (fun hc => ?_) (fun hc => ?_)
      · replace h := h.2 hc
        refine x_aload C hl dX11_value_36 rfl ?_
        refine x_get C hW (t := 2) (k := 2) t6 kl_2 (by decide) fl_X11_139 (v := .int (mI s4 w5 2)) rfl dX11_value_38 ?_
        refine lv_iconst (v := (4 : Int32)) hx hb dX11_value_41 (by decide) ?_
        refine lv_icmp_eq hx hb dX11_value_42 (tgt := 53) rfl (fun hc => ?_) (fun hc => ?_)
        · replace h := h.1 hc
          refine x_aload_n C hl dX11_value_53 rfl ?_
          have t7 := h.1
          replace h := h.2
          refine x_get C hW (t := 7) (k := 6) t7 kl_7 (by decide) fl_X11_238 (v := rv b0 (mR s4 w3 6)) rfl dX11_value_54 ?_
          refine x_iload_n C hl dX11_value_57 rfl ?_
          have t8 := h.1
          replace h := h.2
          have v9 := h.1
          replace h := h.2
          refine x_iald C hW t8 v9 dX11_value_58 ?_
          refine lv_if_ne hx hb dX11_value_59 (tgt := 66) rfl (fun hc => ?_) (fun hc => ?_)
          · replace h := h.2 hc
            refine x_aload_n C hl dX11_value_66 rfl ?_
            refine x_get C hW (t := 11) (k := 9) t1 kl_11 (by decide) fl_X11_67 (v := rv b0 (mR s4 l0 9)) rfl dX11_value_67 ?_
            refine x_iload_n C hl dX11_value_70 rfl ?_
            refine lv_bipush (v := (100 : Int32)) hx hb dX11_value_71 (by decide) ?_
            refine lv_idiv hx hb dX11_value_73 (by decide) ?_
            have t10 := h.1
            replace h := h.2
            have v11 := h.1
            replace h := h.2
            refine x_aald C hW (t := 106) (t0 := 7) t10 (by decide) rfl v11 dX11_value_74 ?_
            refine x_aload_n C hl dX11_value_75 rfl ?_
            refine x_get C hW (t := 11) (k := 6) t1 kl_11 (by decide) fl_X11_53 (v := rv b0 (mR s4 l0 6)) rfl dX11_value_76 ?_
            have t12 := h.1
            replace h := h.2
            refine x_get C hW (t := 5) (k := 0) t12 kl_5 (by decide) fl_X11_102 (v := rv b0 (mR s4 (mR s4 l0 6) 0)) rfl dX11_value_79 ?_
            refine x_aload C hl dX11_value_82 rfl ?_
            refine x_get C hW (t := 2) (k := 8) t6 kl_2 (by decide) fl_X11_148 (v := .int (mI s4 w5 8)) rfl dX11_value_84 ?_
            have t13 := h.1
            replace h := h.2
            refine y_i (x_run (As := [.int (mI s4 w5 8)]) C hW hS (T_X6_rootOf l (mR s4 (mR s4 l0 6) 0) (mI s4 w5 8) s4 _ h) t13 kl_6 (CW.of yv_X6_rootOf ml_X11_243) ⟨rfl, rfl, ⟨by decide, by decide⟩, by decide, by decide⟩ rfl hl.1 rfl (by simp [rv_cat, cat_i, cat_l]) dX11_value_87) hS (fun w15 s14 H locs h hW hS => ?_)
            refine x_aload_n C hl dX11_value_90 rfl ?_
            refine x_get C hW (t := 7) (k := 6) t7 kl_7 (by decide) fl_X11_238 (v := rv b0 (mR s14 w3 6)) rfl dX11_value_91 ?_
            refine x_iload_n C hl dX11_value_94 rfl ?_
            have t16 := h.1
            replace h := h.2
            have v17 := h.1
            replace h := h.2
            refine x_iald C hW t16 v17 dX11_value_95 ?_
            have t18 := h.1
            replace h := h.2
            refine y_i (x_run (As := [.int w15, .int (mI s14 (mR s14 w3 6) l2.toNatClampNeg)]) C hW hS (T_X9_numberMet l (mR s4 (mR s4 l0 9) (l1 / (100 : Int32)).toNatClampNeg) w15 (mI s14 (mR s14 w3 6) l2.toNatClampNeg) s14 _ h) t18 kl_9 (CW.of yv_X9_numberMet ml_X11_247) ⟨rfl, rfl, ⟨by decide, by decide⟩, by decide, by decide⟩ rfl hl.1 rfl (by decide) dX11_value_96) hS (fun w20 s19 H locs h hW hS => ?_)
            refine lv_i2l hx hb dX11_value_99 rfl ?_
            exact r_l C hr hW hS h dX11_value_100
          · replace h := h.1 hc
            refine lv_ldc2 (own := RX11) (v := (-1 : Int64)) hx hb C.2.2.2.1 (C.2.2.2.2.1 _ (gc5 211 rfl rfl)) dX11_value_62 ?_
            exact r_l C hr hW hS h dX11_value_65
        · replace h := h.2 hc
          refine x_aload_n C hl dX11_value_45 rfl ?_
          have t21 := h.1
          replace h := h.2
          refine x_get C hW (t := 7) (k := 6) t21 kl_7 (by decide) fl_X11_238 (v := rv b0 (mR s4 w3 6)) rfl dX11_value_46 ?_
          refine x_iload_n C hl dX11_value_49 rfl ?_
          have t22 := h.1
          replace h := h.2
          have v23 := h.1
          replace h := h.2
          refine x_iald C hW t22 v23 dX11_value_50 ?_
          refine lv_i2l hx hb dX11_value_51 rfl ?_
          exact r_l C hr hW hS h dX11_value_52
      · replace h := h.1 hc
        exact t_X11_value_32 C hr hS hW (hl.keep [false, false, false, false, false] rfl) h
theorem T_X11_value (l : Launch) {G : Lay} {D : va_G} {tc : Nat → ClassId} {b0 : Nat} (l0 : Nat) (l1 : Int32) (l2 : Int32) (σ : Mem) (Qx : Int64 → Mem → Prop) (h : X_X11_value G Qx l0 l1 l2 σ) : ML l yX11_value cX11_value 5 ((some FieldType.long)) rm_X11_value G D tc b0 [rv b0 l0, .int l1, .int l2] σ Qx :=
  x_entry (y := yX11_value) [.inr (.inr l0), .inl l1, .inl l2] 2 (by decide) (Nat.le_of_ble_eq_true rfl) (fun p e s m args below meth c ls C hr hW hl => t_X11_value_0 C hr va_S.rf hW (hl.keep [true, true, true, false, false] rfl) h)
/-! X11_put -/
set_option maxRecDepth 20000 in
set_option maxHeartbeats 4000000 in
theorem t_X11_put_35 {p : Program} {l : Launch} {e : Env} {s : State} {m : MethodId} {args : Array Value} {below : List Frame} {meth : Method} {c : Code} {H : Heap} {locs : List Loc} {D : va_G} {tc : Nat → ClassId} {b0 : Nat} {ls : Array Slot} {G : Lay} {Qx : Int32 → Mem → Prop}   {σ : Mem} (C : Cx p s m args meth c cX11_put RX11 6 D tc b0) (hr : meth.sig.returnType = (some FieldType.boolean)) (hS : va_S (AA b0) s.heap H locs) (hW : Wd G D tc b0 σ H) (hl : hL b0 ls 6 [none, none, none, none, none, none]) (h : X_X11_put_35 G Qx   σ) : W p l e rm_X11_put s m args below meth c H locs 0 0 (MQ below (va_Qi Qx (fun u t => Pw G D tc b0 u t) (AA b0)) args s 0 0 (AA b0)) (F0 m 35 ls []) := by
  have hx := C.1
  have hb := C.2.1
  unfold X_X11_put_35 at h
  refine lv_iconst (v := (0 : Int32)) hx hb dX11_put_35 (by decide) ?_
  exact r_z C hr hW hS h.1 h.2 dX11_put_36
set_option maxRecDepth 20000 in
set_option maxHeartbeats 4000000 in
theorem t_X11_put_0 {p : Program} {l : Launch} {e : Env} {s : State} {m : MethodId} {args : Array Value} {below : List Frame} {meth : Method} {c : Code} {H : Heap} {locs : List Loc} {D : va_G} {tc : Nat → ClassId} {b0 : Nat} {ls : Array Slot} {G : Lay} {Qx : Int32 → Mem → Prop} {l0 : Nat} {l1 : Int32} {l2 : Int32} {l3 : Int32}  {σ : Mem} (C : Cx p s m args meth c cX11_put RX11 6 D tc b0) (hr : meth.sig.returnType = (some FieldType.boolean)) (hS : va_S (AA b0) s.heap H locs) (hW : Wd G D tc b0 σ H) (hl : hL b0 ls 6 [some (.inr (.inr l0)), some (.inl l1), some (.inl l2), some (.inl l3), none, none]) (h : X_X11_put_0 G Qx l0 l1 l2 l3  σ) : W p l e rm_X11_put s m args below meth c H locs 0 0 (MQ below (va_Qi Qx (fun u t => Pw G D tc b0 u t) (AA b0)) args s 0 0 (AA b0)) (F0 m 0 ls []) := by
  have hx := C.1
  have hb := C.2.1
  unfold X_X11_put_0 at h
  refine x_aload_n C hl dX11_put_0 rfl ?_
  refine x_iload_n C hl dX11_put_1 rfl ?_
  have t1 := h.1
  replace h := h.2
  refine y_r (x_run (As := [.int l1]) C hW hS (T_X11_usableThing l l0 l1 σ _ h) t1 kl_11 (CW.of yv_X11_usableThing ml_X11_227) ⟨rfl, rfl, ⟨by decide, by decide⟩, by decide, by decide⟩ rfl hl.1 rfl (by decide) dX11_put_2) hS (fun w3 s2 H locs h hW hS => ?_)
  refine x_astore C hl dX11_put_5 (by decide) rfl (fun ls hl => ?_)
  refine x_aload_n C hl dX11_put_7 rfl ?_
  refine x_aload C hl dX11_put_8 rfl ?_
  refine x_iload_n C hl dX11_put_10 rfl ?_
  refine y_r (x_run (As := [rv b0 w3, .int l2]) C hW hS (T_X11_memberOf l l0 w3 l2 s2 _ h) t1 kl_11 (CW.of yv_X11_memberOf ml_X11_230) ⟨rfl, rfl, ⟨by decide, by decide⟩, by decide, by decide⟩ rfl hl.1 rfl (by decide) dX11_put_11) hS (fun w5 s4 H locs h hW hS => ?_)
  refine x_astore C hl dX11_put_14 (by decide) rfl (fun ls hl => ?_)
  refine x_aload C hl dX11_put_16 rfl ?_
  refine x_ifnull C dX11_put_18 (tgt := 35) rfl (fun hc => ?_) (fun hc => ?_)
  · replace h := h.1 hc
    exact t_X11_put_35 C hr hS hW (hl.keep [false, false, false, false, false, false] rfl) h
  · replace h := h.2 hc
    refine x_aload C hl dX11_put_21 rfl ?_
    refine x_ifnull C dX11_put_23 (tgt := 35) rfl (fun hc => ?_) (fun hc => ?_)
    · replace h := h.1 hc
      exact t_X11_put_35 C hr hS hW (hl.keep [false, false, false, false, false, false] rfl) h
    · replace h := h.2 hc
      refine x_aload C hl dX11_put_26 rfl ?_
      refine x_iload_n C hl dX11_put_28 rfl ?_
      have t6 := h.1
      replace h := h.2
      refine y_i (x_run (As := [.int l3]) C hW hS (T_X2_holds l w5 l3 s4 _ h) t6 kl_2 (CW.of yv_X2_holds ml_X11_250) ⟨rfl, rfl, ⟨by decide, by decide⟩, by decide, by decide⟩ rfl hl.1 rfl (by decide) dX11_put_29) hS (fun w8 s7 H locs h hW hS => ?_)
      refine lv_if_ne hx hb dX11_put_32 (tgt := 37) rfl (fun hc => ?_) (fun hc => ?_)
      · replace h := h.2 hc
        refine x_aload C hl dX11_put_37 rfl ?_
        have t9 := h.1
        replace h := h.2
        refine x_get C hW (t := 7) (k := 6) t9 kl_7 (by decide) fl_X11_238 (v := rv b0 (mR s7 w3 6)) rfl dX11_put_39 ?_
        refine x_iload_n C hl dX11_put_42 rfl ?_
        refine x_iload_n C hl dX11_put_43 rfl ?_
        have t10 := h.1
        replace h := h.2
        have v11 := h.1
        replace h := h.2
        refine x_iast C hW hS t10 v11 dX11_put_44 (fun H locs hW hS => ?_)
        obtain ⟨s12, e_s12⟩ : ∃ z : Mem, z = (sI s7 (mR s7 w3 6) l2.toNatClampNeg l3) := ⟨_, rfl⟩
        replace h := h s12 e_s12
        replace hW : Wd G D tc b0 s12 H := by rw [e_s12]; exact hW
        refine lv_iconst (v := (1 : Int32)) hx hb dX11_put_45 (by decide) ?_
        exact r_z C hr hW hS h.1 h.2 dX11_put_46
      · replace h := h.1 hc
        exact t_X11_put_35 C hr hS hW (hl.keep [false, false, false, false, false, false] rfl) h
theorem T_X11_put (l : Launch) {G : Lay} {D : va_G} {tc : Nat → ClassId} {b0 : Nat} (l0 : Nat) (l1 : Int32) (l2 : Int32) (l3 : Int32) (σ : Mem) (Qx : Int32 → Mem → Prop) (h : X_X11_put G Qx l0 l1 l2 l3 σ) : MI l yX11_put cX11_put 6 ((some FieldType.boolean)) rm_X11_put G D tc b0 [rv b0 l0, .int l1, .int l2, .int l3] σ Qx :=
  x_entry (y := yX11_put) [.inr (.inr l0), .inl l1, .inl l2, .inl l3] 2 (by decide) (Nat.le_of_ble_eq_true rfl) (fun p e s m args below meth c ls C hr hW hl => t_X11_put_0 C hr va_S.rf hW (hl.keep [true, true, true, true, false, false] rfl) h)
/-! X11_link -/
set_option maxRecDepth 20000 in
set_option maxHeartbeats 4000000 in
theorem t_X11_link_35 {p : Program} {l : Launch} {e : Env} {s : State} {m : MethodId} {args : Array Value} {below : List Frame} {meth : Method} {c : Code} {H : Heap} {locs : List Loc} {D : va_G} {tc : Nat → ClassId} {b0 : Nat} {ls : Array Slot} {G : Lay} {Qx : Int32 → Mem → Prop}   {σ : Mem} (C : Cx p s m args meth c cX11_link RX11 7 D tc b0) (hr : meth.sig.returnType = (some FieldType.boolean)) (hS : va_S (AA b0) s.heap H locs) (hW : Wd G D tc b0 σ H) (hl : hL b0 ls 7 [none, none, none, none, none, none, none]) (h : X_X11_link_35 G Qx   σ) : W p l e rm_X11_link s m args below meth c H locs 0 0 (MQ below (va_Qi Qx (fun u t => Pw G D tc b0 u t) (AA b0)) args s 0 0 (AA b0)) (F0 m 35 ls []) := by
  have hx := C.1
  have hb := C.2.1
  unfold X_X11_link_35 at h
  refine lv_iconst (v := (0 : Int32)) hx hb dX11_link_35 (by decide) ?_
  exact r_z C hr hW hS h.1 h.2 dX11_link_36
set_option maxRecDepth 20000 in
set_option maxHeartbeats 4000000 in
theorem t_X11_link_67 {p : Program} {l : Launch} {e : Env} {s : State} {m : MethodId} {args : Array Value} {below : List Frame} {meth : Method} {c : Code} {H : Heap} {locs : List Loc} {D : va_G} {tc : Nat → ClassId} {b0 : Nat} {ls : Array Slot} {G : Lay} {Qx : Int32 → Mem → Prop}   {σ : Mem} (C : Cx p s m args meth c cX11_link RX11 7 D tc b0) (hr : meth.sig.returnType = (some FieldType.boolean)) (hS : va_S (AA b0) s.heap H locs) (hW : Wd G D tc b0 σ H) (hl : hL b0 ls 7 [none, none, none, none, none, none, none]) (h : X_X11_link_67 G Qx   σ) : W p l e rm_X11_link s m args below meth c H locs 0 0 (MQ below (va_Qi Qx (fun u t => Pw G D tc b0 u t) (AA b0)) args s 0 0 (AA b0)) (F0 m 67 ls []) := by
  have hx := C.1
  have hb := C.2.1
  unfold X_X11_link_67 at h
  refine lv_iconst (v := (0 : Int32)) hx hb dX11_link_67 (by decide) ?_
  exact r_z C hr hW hS h.1 h.2 dX11_link_68
set_option maxRecDepth 20000 in
set_option maxHeartbeats 4000000 in
theorem t_X11_link_104 {p : Program} {l : Launch} {e : Env} {s : State} {m : MethodId} {args : Array Value} {below : List Frame} {meth : Method} {c : Code} {H : Heap} {locs : List Loc} {D : va_G} {tc : Nat → ClassId} {b0 : Nat} {ls : Array Slot} {G : Lay} {Qx : Int32 → Mem → Prop}   {σ : Mem} (C : Cx p s m args meth c cX11_link RX11 7 D tc b0) (hr : meth.sig.returnType = (some FieldType.boolean)) (hS : va_S (AA b0) s.heap H locs) (hW : Wd G D tc b0 σ H) (hl : hL b0 ls 7 [none, none, none, none, none, none, none]) (h : X_X11_link_104 G Qx   σ) : W p l e rm_X11_link s m args below meth c H locs 0 0 (MQ below (va_Qi Qx (fun u t => Pw G D tc b0 u t) (AA b0)) args s 0 0 (AA b0)) (F0 m 104 ls []) := by
  have hx := C.1
  have hb := C.2.1
  unfold X_X11_link_104 at h
  refine lv_iconst (v := (0 : Int32)) hx hb dX11_link_104 (by decide) ?_
  exact r_z C hr hW hS h.1 h.2 dX11_link_105
set_option maxRecDepth 20000 in
set_option maxHeartbeats 4000000 in
theorem t_X11_link_0 {p : Program} {l : Launch} {e : Env} {s : State} {m : MethodId} {args : Array Value} {below : List Frame} {meth : Method} {c : Code} {H : Heap} {locs : List Loc} {D : va_G} {tc : Nat → ClassId} {b0 : Nat} {ls : Array Slot} {G : Lay} {Qx : Int32 → Mem → Prop} {l0 : Nat} {l1 : Int32} {l2 : Int32} {l3 : Int32}  {σ : Mem} (C : Cx p s m args meth c cX11_link RX11 7 D tc b0) (hr : meth.sig.returnType = (some FieldType.boolean)) (hS : va_S (AA b0) s.heap H locs) (hW : Wd G D tc b0 σ H) (hl : hL b0 ls 7 [some (.inr (.inr l0)), some (.inl l1), some (.inl l2), some (.inl l3), none, none, none]) (h : X_X11_link_0 G Qx l0 l1 l2 l3  σ) : W p l e rm_X11_link s m args below meth c H locs 0 0 (MQ below (va_Qi Qx (fun u t => Pw G D tc b0 u t) (AA b0)) args s 0 0 (AA b0)) (F0 m 0 ls []) := by
  have hx := C.1
  have hb := C.2.1
  unfold X_X11_link_0 at h
  refine x_aload_n C hl dX11_link_0 rfl ?_
  refine x_iload_n C hl dX11_link_1 rfl ?_
  have t1 := h.1
  replace h := h.2
  refine y_r (x_run (As := [.int l1]) C hW hS (T_X11_usableThing l l0 l1 σ _ h) t1 kl_11 (CW.of yv_X11_usableThing ml_X11_227) ⟨rfl, rfl, ⟨by decide, by decide⟩, by decide, by decide⟩ rfl hl.1 rfl (by decide) dX11_link_2) hS (fun w3 s2 H locs h hW hS => ?_)
  refine x_astore C hl dX11_link_5 (by decide) rfl (fun ls hl => ?_)
  refine x_aload_n C hl dX11_link_7 rfl ?_
  refine x_aload C hl dX11_link_8 rfl ?_
  refine x_iload_n C hl dX11_link_10 rfl ?_
  refine y_r (x_run (As := [rv b0 w3, .int l2]) C hW hS (T_X11_memberOf l l0 w3 l2 s2 _ h) t1 kl_11 (CW.of yv_X11_memberOf ml_X11_230) ⟨rfl, rfl, ⟨by decide, by decide⟩, by decide, by decide⟩ rfl hl.1 rfl (by decide) dX11_link_11) hS (fun w5 s4 H locs h hW hS => ?_)
  refine x_astore C hl dX11_link_14 (by decide) rfl (fun ls hl => ?_)
  refine x_aload C hl dX11_link_16 rfl ?_
  refine x_ifnull C dX11_link_18 (tgt := 35) rfl (fun hc => ?_) (fun hc => ?_)
  · replace h := h.1 hc
    exact t_X11_link_35 C hr hS hW (hl.keep [false, false, false, false, false, false, false] rfl) h
  · replace h := h.2 hc
    refine x_aload C hl dX11_link_21 rfl ?_
    refine x_ifnull C dX11_link_23 (tgt := 35) rfl (fun hc => ?_) (fun hc => ?_)
    · replace h := h.1 hc
      exact t_X11_link_35 C hr hS hW (hl.keep [false, false, false, false, false, false, false] rfl) h
    · replace h := h.2 hc
      refine x_aload C hl dX11_link_26 rfl ?_
      have t6 := h.1
      replace h := h.2
      refine x_get C hW (t := 2) (k := 2) t6 kl_2 (by decide) fl_X11_139 (v := .int (mI s4 w5 2)) rfl dX11_link_28 ?_
      refine lv_iconst (v := (4 : Int32)) hx hb dX11_link_31 (by decide) ?_
      refine lv_icmp_eq hx hb dX11_link_32 (tgt := 37) rfl (fun hc => ?_) (fun hc => ?_)
      · replace h := h.1 hc
        refine x_iload_n C hl dX11_link_37 rfl ?_
        refine lv_iconst (v := (-1 : Int32)) hx hb dX11_link_38 (by decide) ?_
        refine lv_icmp_ne hx hb dX11_link_39 (tgt := 52) rfl (fun hc => ?_) (fun hc => ?_)
        · replace h := h.2 hc
          refine x_iload_n C hl dX11_link_52 rfl ?_
          refine lv_if_lt hx hb dX11_link_53 (tgt := 67) rfl (fun hc => ?_) (fun hc => ?_)
          · replace h := h.1 hc
            exact t_X11_link_67 C hr hS hW (hl.keep [false, false, false, false, false, false, false] rfl) h
          · replace h := h.2 hc
            refine x_iload_n C hl dX11_link_56 rfl ?_
            refine lv_bipush (v := (100 : Int32)) hx hb dX11_link_57 (by decide) ?_
            refine lv_idiv hx hb dX11_link_59 (by decide) ?_
            refine x_iload_n C hl dX11_link_60 rfl ?_
            refine lv_bipush (v := (100 : Int32)) hx hb dX11_link_61 (by decide) ?_
            refine lv_idiv hx hb dX11_link_63 (by decide) ?_
            refine lv_icmp_eq hx hb dX11_link_64 (tgt := 69) rfl (fun hc => ?_) (fun hc => ?_)
            · replace h := h.1 hc
              refine x_aload_n C hl dX11_link_69 rfl ?_
              refine x_iload_n C hl dX11_link_70 rfl ?_
              refine y_r (x_run (As := [.int l3]) C hW hS (T_X11_usableThing l l0 l3 s4 _ h) t1 kl_11 (CW.of yv_X11_usableThing ml_X11_227) ⟨rfl, rfl, ⟨by decide, by decide⟩, by decide, by decide⟩ rfl hl.1 rfl (by decide) dX11_link_71) hS (fun w8 s7 H locs h hW hS => ?_)
              refine x_astore C hl dX11_link_74 (by decide) rfl (fun ls hl => ?_)
              refine x_aload C hl dX11_link_76 rfl ?_
              refine x_ifnull C dX11_link_78 (tgt := 104) rfl (fun hc => ?_) (fun hc => ?_)
              · replace h := h.1 hc
                exact t_X11_link_104 C hr hS hW (hl.keep [false, false, false, false, false, false, false] rfl) h
              · replace h := h.2 hc
                refine x_aload_n C hl dX11_link_81 rfl ?_
                refine x_get C hW (t := 11) (k := 6) t1 kl_11 (by decide) fl_X11_53 (v := rv b0 (mR s7 l0 6)) rfl dX11_link_82 ?_
                have t9 := h.1
                replace h := h.2
                refine x_get C hW (t := 5) (k := 0) t9 kl_5 (by decide) fl_X11_102 (v := rv b0 (mR s7 (mR s7 l0 6) 0)) rfl dX11_link_85 ?_
                refine x_aload C hl dX11_link_88 rfl ?_
                have t10 := h.1
                replace h := h.2
                refine x_get C hW (t := 7) (k := 4) t10 kl_7 (by decide) fl_X11_200 (v := .int (mI s7 w8 4)) rfl dX11_link_90 ?_
                refine x_aload C hl dX11_link_93 rfl ?_
                refine x_get C hW (t := 2) (k := 8) t6 kl_2 (by decide) fl_X11_148 (v := .int (mI s7 w5 8)) rfl dX11_link_95 ?_
                have t11 := h.1
                replace h := h.2
                refine y_i (x_run (As := [.int (mI s7 w8 4), .int (mI s7 w5 8)]) C hW hS (T_X6_isOf l (mR s7 (mR s7 l0 6) 0) (mI s7 w8 4) (mI s7 w5 8) s7 _ h) t11 kl_6 (CW.of yv_X6_isOf ml_X11_254) ⟨rfl, rfl, ⟨by decide, by decide⟩, by decide, by decide⟩ rfl hl.1 rfl (by decide) dX11_link_98) hS (fun w13 s12 H locs h hW hS => ?_)
                refine lv_if_ne hx hb dX11_link_101 (tgt := 106) rfl (fun hc => ?_) (fun hc => ?_)
                · replace h := h.2 hc
                  refine x_aload C hl dX11_link_106 rfl ?_
                  have t14 := h.1
                  replace h := h.2
                  refine x_get C hW (t := 7) (k := 6) t14 kl_7 (by decide) fl_X11_238 (v := rv b0 (mR s12 w3 6)) rfl dX11_link_108 ?_
                  refine x_iload_n C hl dX11_link_111 rfl ?_
                  refine x_aload C hl dX11_link_112 rfl ?_
                  refine x_get C hW (t := 7) (k := 3) t10 kl_7 (by decide) fl_X11_217 (v := .int (mI s12 w8 3)) rfl dX11_link_114 ?_
                  have t15 := h.1
                  replace h := h.2
                  have v16 := h.1
                  replace h := h.2
                  refine x_iast C hW hS t15 v16 dX11_link_117 (fun H locs hW hS => ?_)
                  obtain ⟨s17, e_s17⟩ : ∃ z : Mem, z = (sI s12 (mR s12 w3 6) l2.toNatClampNeg (mI s12 w8 3)) := ⟨_, rfl⟩
                  replace h := h s17 e_s17
                  replace hW : Wd G D tc b0 s17 H := by rw [e_s17]; exact hW
                  refine lv_iconst (v := (1 : Int32)) hx hb dX11_link_118 (by decide) ?_
                  exact r_z C hr hW hS h.1 h.2 dX11_link_119
                · replace h := h.1 hc
                  exact t_X11_link_104 C hr hS hW (hl.keep [false, false, false, false, false, false, false] rfl) h
            · replace h := h.2 hc
              exact t_X11_link_67 C hr hS hW (hl.keep [false, false, false, false, false, false, false] rfl) h
        · replace h := h.1 hc
          refine x_aload C hl dX11_link_42 rfl ?_
          have t18 := h.1
          replace h := h.2
          refine x_get C hW (t := 7) (k := 6) t18 kl_7 (by decide) fl_X11_238 (v := rv b0 (mR s4 w3 6)) rfl dX11_link_44 ?_
          refine x_iload_n C hl dX11_link_47 rfl ?_
          refine lv_iconst (v := (0 : Int32)) hx hb dX11_link_48 (by decide) ?_
          have t19 := h.1
          replace h := h.2
          have v20 := h.1
          replace h := h.2
          refine x_iast C hW hS t19 v20 dX11_link_49 (fun H locs hW hS => ?_)
          obtain ⟨s21, e_s21⟩ : ∃ z : Mem, z = (sI s4 (mR s4 w3 6) l2.toNatClampNeg (0 : Int32)) := ⟨_, rfl⟩
          replace h := h s21 e_s21
          replace hW : Wd G D tc b0 s21 H := by rw [e_s21]; exact hW
          refine lv_iconst (v := (1 : Int32)) hx hb dX11_link_50 (by decide) ?_
          exact r_z C hr hW hS h.1 h.2 dX11_link_51
      · replace h := h.2 hc
        exact t_X11_link_35 C hr hS hW (hl.keep [false, false, false, false, false, false, false] rfl) h
theorem T_X11_link (l : Launch) {G : Lay} {D : va_G} {tc : Nat → ClassId} {b0 : Nat} (l0 : Nat) (l1 : Int32) (l2 : Int32) (l3 : Int32) (σ : Mem) (Qx : Int32 → Mem → Prop) (h : X_X11_link G Qx l0 l1 l2 l3 σ) : MI l yX11_link cX11_link 7 ((some FieldType.boolean)) rm_X11_link G D tc b0 [rv b0 l0, .int l1, .int l2, .int l3] σ Qx :=
  x_entry (y := yX11_link) [.inr (.inr l0), .inl l1, .inl l2, .inl l3] 3 (by decide) (Nat.le_of_ble_eq_true rfl) (fun p e s m args below meth c ls C hr hW hl => t_X11_link_0 C hr va_S.rf hW (hl.keep [true, true, true, true, false, false, false] rfl) h)
